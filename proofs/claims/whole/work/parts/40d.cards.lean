/-! WHO BEATS WHOM, WHO LEADS WHAT, WHO FOLLOWS WITH WHAT: both ways alike -/
def btsB (c led tr : Nat) : Bool := (decide (c / 8 = led / 8) && decide (led % 8 < c % 8)) || (decide (c / 8 = tr) && !decide (led / 8 = tr))
def bMask (led tr : Int32) : Int32 := if m_X0_suit led = tr then m_X0_suitSet (m_X0_suit led) &&& ((((-1) : Int32) <<< (led &&& 31)) <<< (1 &&& 31)) else (m_X0_suitSet (m_X0_suit led) &&& ((((-1) : Int32) <<< (led &&& 31)) <<< (1 &&& 31))) ||| m_X0_suitSet tr
theorem beating_mask (S led tr : Int32) : m_X0_beating S led tr = S &&& bMask led tr := by
  unfold m_X0_beating bMask
  by_cases h : m_X0_suit led = tr
  · rw [if_pos h, if_pos h]
  · rw [if_neg h, if_neg h]
theorem bMask_bt : ∀ led : Fin 32, ∀ tr : Fin 4, ∀ c : Fin 32, bt (bMask (nI led.val) (nI tr.val)) c.val = btsB c.val led.val tr.val := by decide +kernel
theorem beating_bt (S : Int32) {led tr c : Nat} (h1 : led < 32) (h2 : tr < 4) (h3 : c < 32) : bt (m_X0_beating S (nI led) (nI tr)) c = (bt S c && btsB c led tr) := by
  rw [beating_mask, b_and, bMask_bt ⟨led, h1⟩ ⟨tr, h2⟩ ⟨c, h3⟩]
theorem lit_div {a : Nat} (ha : a < 2 ^ 31) : nI a / 8 = nI (a / 8) := pk_div ha (d := 8) (by omega) (by omega)
theorem lit_rem {a : Nat} (ha : a < 2 ^ 31) : pv_rem (nI a) 8 = nI (a % 8) := pv_remN ha (d := 8) (by omega) (by omega)
theorem lit_rem4 {a : Nat} (ha : a < 2 ^ 31) : pv_rem (nI a) 4 = nI (a % 4) := pv_remN ha (d := 4) (by omega) (by omega)
theorem lit_rem2 {a : Nat} (ha : a < 2 ^ 31) : pv_rem (nI a) 2 = nI (a % 2) := pv_remN ha (d := 2) (by omega) (by omega)
theorem lit_rem32 {a : Nat} (ha : a < 2 ^ 31) : pv_rem (nI a) 32 = nI (a % 32) := pv_remN ha (d := 32) (by omega) (by omega)
theorem isTrump_eq {w : pv_MT} {M c : Nat} (hM : w.1 0 = nI M) (hM2 : M < 2 ^ 31) (hc : c < 32) : m_X7_isTrump (nI c) w = some (if c / 8 = M % 4 then 1 else 0) := by
  unfold m_X7_isTrump
  rw [hM, lit_div (by omega), lit_rem4 hM2]
  by_cases h : c / 8 = M % 4
  · rw [if_pos (by rw [h]), if_pos h]
  · rw [if_neg (fun e => h ((nI_eq (by omega) (by omega)).mp e)), if_neg h]
theorem doesBeat_eq {w : pv_MT} {M c led : Nat} (hM : w.1 0 = nI M) (hM2 : M < 2 ^ 31) (hc : c < 32) (hl : led < 32) : m_X7_doesBeat (nI c) (nI led) w = some (if btsB c led (M % 4) = true then 1 else 0) := by
  have h22 : m_X7_doesBeat_22 (nI c) (nI led) w = some (if c / 8 = M % 4 ∧ ¬ led / 8 = M % 4 then 1 else 0) := by
    unfold m_X7_doesBeat_22
    rw [isTrump_eq hM hM2 hc]
    show (if (if c / 8 = M % 4 then (1 : Int32) else 0) = 0 then some 0 else Option.bind (m_X7_isTrump (nI led) w) fun u_4 => if u_4 = 0 then some 1 else some 0) = _
    rw [isTrump_eq hM hM2 hl]
    by_cases h1 : c / 8 = M % 4 <;> by_cases h2 : led / 8 = M % 4 <;> simp [h1, h2]
  unfold m_X7_doesBeat
  rw [h22, lit_div (by omega), lit_div (by omega), lit_rem (by omega), lit_rem (by omega)]
  unfold btsB
  by_cases h1 : c / 8 = led / 8
  · rw [if_pos (by rw [h1])]
    by_cases h2 : led % 8 < c % 8
    · rw [if_pos (nI_lt h2 (by omega))]
      simp [h1, h2]
    · rw [if_neg (nI_nlt (by omega) (by omega))]
      simp [h1, h2]
  · rw [if_neg (fun e => h1 ((nI_eq (by omega) (by omega)).mp e))]
    simp [h1]
theorem bt_one : ∀ c : Fin 32, ∀ i : Fin 32, bt ((1 : Int32) <<< (nI c.val &&& 31)) i.val = decide (i.val = c.val) := by decide +kernel
theorem or_0 (x : Int32) : x ||| 0 = x := b_ext fun i _ => by rw [b_or, b_0, Bool.or_false]
theorem beaters_loop {w : pv_MT} {M led : Nat} (S : Int32) (hM : w.1 0 = nI M) (hM2 : M < 2 ^ 31) (hl : led < 32) : ∀ (k c n : Nat) (acc : Int32), c + k = 32 → k < n → (∀ i, i < 32 → bt acc i = (decide (i < c) && (bt S i && btsB i led (M % 4)))) → m_X7_beaters_5 n S (nI led) acc (nI c) w = some (m_X0_beating S (nI led) (nI (M % 4))) := by
  intro k
  induction k with
  | zero =>
    intro c n acc hc hn hi
    obtain ⟨n, rfl⟩ : ∃ n', n = n' + 1 := ⟨n - 1, by omega⟩
    have : c = 32 := by omega
    subst this
    rw [m_X7_beaters_5_s, if_pos (by decide)]
    congr 1
    apply b_ext
    intro i hi2
    rw [hi i hi2, beating_bt S hl (by omega) hi2, decide_eq_true hi2, Bool.true_and]
  | succ k ih =>
    intro c n acc hc hn hi
    obtain ⟨n, rfl⟩ : ∃ n', n = n' + 1 := ⟨n - 1, by omega⟩
    have hlt : ¬ (32 : Int32) ≤ nI c := nI_ge (b := 32) (by omega) (by omega)
    have go : ∀ acc2, (∀ i, i < 32 → bt acc2 i = (decide (i < c + 1) && (bt S i && btsB i led (M % 4)))) → m_X7_beaters_5 n S (nI led) acc2 (nI c + 1) w = some (m_X0_beating S (nI led) (nI (M % 4))) := fun acc2 h => by
      rw [nI_1]; exact ih (c + 1) n acc2 (by omega) (by omega) h
    have h39 : m_X7_beaters_39 (m_X7_beaters_5 n) S (nI led) (nI c) acc w = m_X7_beaters_5 n S (nI led) acc (nI c + 1) w := by
      show m_X7_beaters_5 n S (nI led) (acc ||| 0) (nI c + 1) w = _
      rw [or_0]
    rw [m_X7_beaters_5_s, if_neg hlt, has_eq S (by omega), h39, doesBeat_eq hM hM2 (by omega) hl]
    show (if (if bt S c = true then (1 : Int32) else 0) = 0 then m_X7_beaters_5 n S (nI led) acc (nI c + 1) w else (if (if btsB c led (M % 4) = true then (1 : Int32) else 0) = 0 then m_X7_beaters_5 n S (nI led) acc (nI c + 1) w else m_X7_beaters_5 n S (nI led) (acc ||| ((1 : Int32) <<< (nI c &&& 31))) (nI c + 1) w)) = _
    by_cases hb : bt S c = true
    · rw [if_pos hb, if_neg (by decide)]
      by_cases hd : btsB c led (M % 4) = true
      · rw [if_pos hd, if_neg (by decide)]
        refine go _ (fun i hi2 => ?_)
        rw [b_or, hi i hi2, bt_one ⟨c, by omega⟩ ⟨i, hi2⟩]
        dsimp only
        by_cases e : i = c
        · subst e; simp [hb, hd]
        · rw [decide_eq_false e, Bool.or_false]
          congr 1
          exact decide_eq_decide.mpr (by omega)
      · rw [if_neg hd, if_pos rfl]
        refine go _ (fun i hi2 => ?_)
        rw [hi i hi2]
        by_cases e : i = c
        · subst e
          have : btsB i led (M % 4) = false := by simpa using hd
          simp [this]
        · congr 1
          exact decide_eq_decide.mpr (by omega)
    · rw [if_neg hb, if_pos rfl]
      refine go _ (fun i hi2 => ?_)
      rw [hi i hi2]
      by_cases e : i = c
      · subst e
        have : bt S i = false := by simpa using hb
        simp [this]
      · congr 1
        exact decide_eq_decide.mpr (by omega)
theorem beaters_ok {w : pv_MT} {M led : Nat} (S : Int32) (hM : w.1 0 = nI M) (hM2 : M < 2 ^ 31) (hl : led < 32) : m_X7_beaters S (nI led) w = some (m_X0_beating S (nI led) (nI (M % 4))) :=
  beaters_loop S hM hM2 hl 32 0 300 0 (by omega) (by omega) (fun i _ => by rw [b_0, decide_eq_false (by omega), Bool.false_and])
theorem gd_nI {α : Type} {i n : Nat} (h : i < n) (hn : n < 2 ^ 31) (k : Option α) : pv_gd (nI i) n k = k := by
  unfold pv_gd
  exact if_neg (nI_in h hn)
theorem it_eq (w : pv_MT) {e j : Nat} (he : e < 8) (hj : j < 2) : m_X7_it (nI e) (nI j) w = some (w.1 (15 + 2 * e + j)) := by
  unfold m_X7_it
  rw [show (15 : Int32) = nI 15 from rfl, show (2 : Int32) = nI 2 from rfl, pk_mul, nI_add, nI_add, gd_nI (by omega) (by omega), nI_clamp (by omega)]
theorem it_0 (w : pv_MT) {e : Nat} (he : e < 8) : m_X7_it (nI e) 0 w = some (w.1 (15 + 2 * e)) := it_eq w he (j := 0) (by omega)
theorem it_1 (w : pv_MT) {e : Nat} (he : e < 8) : m_X7_it (nI e) 1 w = some (w.1 (16 + 2 * e)) := by
  have := it_eq w he (j := 1) (by omega)
  rw [show 15 + 2 * e + 1 = 16 + 2 * e by omega] at this
  exact this
/-- a card that is in a hand -/
def inH (h z : Int32) : Prop := ∃ b, b < 32 ∧ z = nI b ∧ bt h b = true
theorem inH_sub {a h z : Int32} (hs : ∀ i, i < 32 → bt a i = true → bt h i = true) (hz : inH a z) : inH h z := by
  obtain ⟨b, h1, h2, h3⟩ := hz
  exact ⟨b, h1, h2, hs b h1 h3⟩
theorem low_in (S : Int32) : ∃ z, m_X0_lowest S = some z ∧ m_X7_lowest S = some z ∧ (¬ S = 0 → inH S z) := by
  obtain ⟨z, h1, h2, h3⟩ := lowest_ok S
  exact ⟨z, h1, h2, fun h => iv_lowest_in h3 h⟩
theorem high_in (S : Int32) : ∃ z, m_X0_highest S = some z ∧ m_X7_highest S = some z ∧ (¬ S = 0 → inH S z) := by
  obtain ⟨z, h1, h2, h3⟩ := highest_ok S
  exact ⟨z, h1, h2, fun h => iv_highest_in h3 h⟩
theorem and_sub (a b : Int32) : ∀ i, i < 32 → bt (a &&& b) i = true → bt a i = true := fun i _ h => by
  rw [b_and] at h
  simp at h
  exact h.1
theorem lead_ok {w : pv_MT} {M e : Nat} {k : Int32} (h : Int32) (hM : w.1 0 = nI M) (hM2 : M < 2 ^ 31) (he : e < 8) (hk : w.1 (15 + 2 * e) = k) : ∃ z, m_X2_lead k h (nI (M % 4)) = some z ∧ m_X7_ledBy (nI e) h w = some z ∧ (¬ h = 0 → inH h z) := by
  have ht : m_X7_trumpsOf h w = some (h &&& m_X0_suitSet (nI (M % 4))) := by
    unfold m_X7_trumpsOf m_X0_suitSet
    rw [hM, lit_rem4 hM2]
  obtain ⟨zl, l1, l2, l3⟩ := low_in h
  obtain ⟨zh, g1, g2, g3⟩ := high_in h
  obtain ⟨zt, t1, t2, t3⟩ := high_in (h &&& m_X0_suitSet (nI (M % 4)))
  unfold m_X2_lead m_X7_ledBy m_X2_lead_58
  rw [ht, it_0 w he, hk]
  simp only [Option.bind_some]
  unfold m_X7_ledBy_62
  rw [l1, l2, g1, g2, t1, t2, bits_eq h]
  simp only [Option.bind_some]
  by_cases c1 : k = 1
  · rw [if_pos c1]; exact ⟨zl, rfl, rfl, l3⟩
  rw [if_neg c1]
  by_cases c2 : k = 2
  · rw [if_pos c2]
    by_cases d : h &&& m_X0_suitSet (nI (M % 4)) = 0
    · rw [if_pos d]; exact ⟨zh, rfl, rfl, g3⟩
    · rw [if_neg d]; exact ⟨zt, rfl, rfl, fun _ => inH_sub (and_sub _ _) (t3 d)⟩
  rw [if_neg c2]
  by_cases c3 : k = 3
  · rw [if_pos c3]; exact ⟨zl, rfl, rfl, l3⟩
  rw [if_neg c3]
  by_cases c4 : k = 4
  · rw [if_pos c4]
    by_cases d : 2 < m_J6_bitCount_0f7a4 h
    · rw [if_pos d]; exact ⟨zl, rfl, rfl, l3⟩
    · rw [if_neg d]; exact ⟨zh, rfl, rfl, g3⟩
  rw [if_neg c4]
  by_cases c5 : k = 5
  · rw [if_pos c5]
    by_cases d : h &&& m_X0_suitSet (nI (M % 4)) = 0
    · rw [if_pos d]; exact ⟨zh, rfl, rfl, g3⟩
    · rw [if_neg d]; exact ⟨zt, rfl, rfl, fun _ => inH_sub (and_sub _ _) (t3 d)⟩
  rw [if_neg c5]
  exact ⟨zh, rfl, rfl, g3⟩
theorem isUnder_tab : ∀ k j : Fin 6, m_X2_isUnder (nI k.val) (nI j.val) = some (if j.val = 0 ∨ j.val = k.val ∨ (j.val = 1 ∧ k.val = 4) ∨ (j.val = 2 ∧ k.val = 5) then 1 else 0) := by decide +kernel
theorem may_ok {w : pv_MT} {e kk : Nat} (h led : Int32) (he : e < 8) (hkk : kk < 6) (hk : w.1 (15 + 2 * e) = nI kk) : ∃ may, m_X2_mayPlay (nI kk) h led (w.1 0) = some may ∧ m_X7_mayOf (nI e) h led w = some may ∧ (∀ i, i < 32 → bt may i = true → bt h i = true) ∧ (¬ h = 0 → ¬ may = 0) := by
  have hu := isUnder_tab ⟨kk, hkk⟩ ⟨2, by omega⟩
  dsimp only at hu
  have key : ∀ y : Int32, m_X2_mayPlay_30 h (h &&& m_X0_suitSet (m_X0_suit led)) y = m_X7_mayOf_36 h led y w ∧ ∃ may, m_X7_mayOf_36 h led y w = some may ∧ (∀ i, i < 32 → bt may i = true → bt h i = true) ∧ (¬ h = 0 → ¬ may = 0) := by
    intro y
    refine ⟨rfl, ?_⟩
    unfold m_X7_mayOf_36
    by_cases c1 : y = 0
    · rw [if_pos c1]
      by_cases c2 : (h &&& ((255 : Int32) <<< ((8 * (led / 8)) &&& 31))) = 0
      · rw [if_pos c2]; exact ⟨h, rfl, fun _ _ z => z, id⟩
      · rw [if_neg c2]; exact ⟨_, rfl, and_sub _ _, fun _ => c2⟩
    · rw [if_neg c1]; exact ⟨h, rfl, fun _ _ z => z, id⟩
  have main : m_X2_mayPlay (nI kk) h led (w.1 0) = m_X7_mayOf (nI e) h led w ∧ ∃ y, m_X7_mayOf (nI e) h led w = m_X7_mayOf_36 h led y w := by
    unfold m_X2_mayPlay m_X7_mayOf m_X7_mayOf_20 m_X7_mayOf_35 m_X2_mayPlay_29
    rw [show (2 : Int32) = nI 2 from rfl, hu, it_0 w he, hk]
    simp only [Option.bind_some]
    by_cases c2 : kk = 2
    · subst c2
      rw [if_pos rfl]
      by_cases c3 : pv_rem (w.1 0) 3 = 0
      · rw [if_pos c3, if_pos c3, if_neg (by decide)]
        exact ⟨rfl, 1, rfl⟩
      · rw [if_neg c3, if_neg c3]
        exact ⟨rfl, 0, rfl⟩
    · rw [if_neg (show ¬ nI kk = nI 2 from fun z => c2 ((nI_eq (by omega) (by omega)).mp z))]
      by_cases c5 : kk = 5
      · subst c5
        rw [if_pos (show nI 5 = 5 from rfl)]
        by_cases c3 : pv_rem (w.1 0) 3 = 0
        · rw [if_pos c3, if_pos c3, if_neg (by decide)]
          exact ⟨rfl, 1, rfl⟩
        · rw [if_neg c3, if_neg c3]
          exact ⟨rfl, 0, rfl⟩
      · rw [if_neg (show ¬ nI kk = 5 from fun z => c5 ((nI_eq (b := 5) (by omega) (by omega)).mp z))]
        by_cases c3 : pv_rem (w.1 0) 3 = 0
        · rw [if_pos c3, if_pos (by rw [if_neg (by omega)])]
          exact ⟨rfl, 0, rfl⟩
        · rw [if_neg c3]
          exact ⟨rfl, 0, rfl⟩
  obtain ⟨m1, y, m2⟩ := main
  obtain ⟨-, may, k1, k2, k3⟩ := key y
  exact ⟨may, by rw [m1, m2, k1], by rw [m2, k1], k2, k3⟩
theorem beat_sub {S led tr : Int32} : ∀ i, i < 32 → bt (m_X0_beating S led tr) i = true → bt S i = true := by
  rw [beating_mask]; exact and_sub _ _
/-- what is left of a set beyond what beats -/
theorem rest_0 {S B : Int32} (hs : ∀ i, i < 32 → bt B i = true → bt S i = true) : (S &&& (B ^^^ (-1))) = 0 ↔ B = S := by
  constructor
  · intro h
    apply b_ext
    intro i hi
    have h1 : bt (S &&& (B ^^^ (-1))) i = false := by rw [h, b_0]
    rw [b_and, b_xor, b_m1 i hi] at h1
    have h2 := hs i hi
    cases hb : bt B i <;> cases hS : bt S i <;> simp_all
  · intro h
    subst h
    apply b_ext
    intro i hi
    rw [b_and, b_xor, b_m1 i hi, b_0]
    cases bt B i <;> rfl
theorem follow_ok {w : pv_MT} {M e kk led : Nat} (h : Int32) (hM : w.1 0 = nI M) (hM2 : M < 2 ^ 31) (he : e < 8) (hkk : kk < 6) (hk : w.1 (15 + 2 * e) = nI kk) (hl : led < 32) (hh : ¬ h = 0) : ∃ may z, m_X2_mayPlay (nI kk) h (nI led) (nI M) = some may ∧ m_X2_follow (nI kk) may (nI led) (nI (M % 4)) = some z ∧ m_X7_followedBy (nI e) h (nI led) w = some z ∧ inH h z := by
  obtain ⟨may, m1, m2, m3, m4⟩ := may_ok h (nI led) he hkk hk
  rw [hM] at m1
  have hb := beaters_ok may hM hM2 hl
  have hm0 := m4 hh
  refine ⟨may, ?_⟩
  obtain ⟨zl, l1, l2, l3⟩ := low_in may
  obtain ⟨zb, b1, b2, b3⟩ := low_in (m_X0_beating may (nI led) (nI (M % 4)))
  obtain ⟨zx, x1, x2, x3⟩ := high_in (m_X0_beating may (nI led) (nI (M % 4)))
  obtain ⟨zr, r1, r2, r3⟩ := high_in (may &&& (m_X0_beating may (nI led) (nI (M % 4)) ^^^ (-1)))
  have hbs := beat_sub (S := may) (led := nI led) (tr := nI (M % 4))
  have hrest := rest_0 hbs
  have hlm : inH h zl := inH_sub m3 (l3 hm0)
  have hit := isTrump_eq hM hM2 hl
  have hsu : (m_X0_suit (nI led) = nI (M % 4)) ↔ led / 8 = M % 4 := by
    unfold m_X0_suit
    rw [lit_div (by omega)]
    exact nI_eq (by omega) (by omega)
  unfold m_X7_followedBy
  rw [m2]
  simp only [Option.bind_some]
  rw [hb]
  simp only [Option.bind_some]
  unfold m_X2_follow
  generalize hB : m_X0_beating may (nI led) (nI (M % 4)) = B at *
  by_cases c0 : B = 0
  · rw [if_pos c0, if_pos c0]
    unfold m_X7_followedBy_30 m_X2_follow_19 m_X2_follow_98
    rw [l1, l2, x1, x2, r1, r2, it_0 w he, hk, hit]
    simp only [Option.bind_some]
    by_cases c1 : nI kk = 1
    · rw [if_pos c1, if_pos c1]; exact ⟨zl, m1, rfl, rfl, hlm⟩
    rw [if_neg c1, if_neg c1]
    by_cases c2 : nI kk = 2
    · rw [if_pos c2, if_pos c2]; exact ⟨zl, m1, rfl, rfl, hlm⟩
    rw [if_neg c2, if_neg c2]
    by_cases c3 : nI kk = 3
    · rw [if_pos c3, if_pos c3]
      by_cases d : B = may
      · rw [if_pos d, if_pos (hrest.mpr d)]; exact ⟨zl, m1, rfl, rfl, hlm⟩
      · have d2 := fun z => d (hrest.mp z)
        rw [if_neg d, if_neg d2]; exact ⟨zr, m1, rfl, rfl, inH_sub m3 (inH_sub (and_sub _ _) (r3 d2))⟩
    rw [if_neg c3, if_neg c3]
    by_cases c4 : nI kk = 4
    · rw [if_pos c4, if_pos c4]
      by_cases d : led / 8 = M % 4
      · rw [if_pos (hsu.mpr d), if_pos d, if_neg (by decide)]; exact ⟨zl, m1, rfl, rfl, hlm⟩
      · rw [if_neg (fun z => d (hsu.mp z)), if_neg d, if_pos rfl]; exact ⟨zl, m1, rfl, rfl, hlm⟩
    rw [if_neg c4, if_neg c4]
    by_cases c5 : nI kk = 5
    · rw [if_pos c5, if_pos c0]; exact ⟨zl, m1, rfl, rfl, hlm⟩
    rw [if_neg c5]
    exact ⟨zl, m1, rfl, rfl, hlm⟩
  · have hbm : inH h zb := inH_sub m3 (inH_sub hbs (b3 c0))
    rw [if_neg c0, if_neg c0]
    unfold m_X7_followedBy_30 m_X2_follow_19 m_X2_follow_98
    rw [l1, l2, b1, b2, x1, x2, r1, r2, it_0 w he, hk, hit]
    simp only [Option.bind_some]
    by_cases c1 : nI kk = 1
    · rw [if_pos c1, if_pos c1]; exact ⟨zl, m1, rfl, rfl, hlm⟩
    rw [if_neg c1, if_neg c1]
    by_cases c2 : nI kk = 2
    · rw [if_pos c2, if_pos c2]; exact ⟨zb, m1, rfl, rfl, hbm⟩
    rw [if_neg c2, if_neg c2]
    by_cases c3 : nI kk = 3
    · rw [if_pos c3, if_pos c3]
      by_cases d : B = may
      · rw [if_pos d, if_pos (hrest.mpr d)]; exact ⟨zl, m1, rfl, rfl, hlm⟩
      · have d2 := fun z => d (hrest.mp z)
        rw [if_neg d, if_neg d2]; exact ⟨zr, m1, rfl, rfl, inH_sub m3 (inH_sub (and_sub _ _) (r3 d2))⟩
    rw [if_neg c3, if_neg c3]
    by_cases c4 : nI kk = 4
    · rw [if_pos c4, if_pos c4]
      by_cases d : led / 8 = M % 4
      · rw [if_pos (hsu.mpr d), if_pos d, if_neg (by decide)]; exact ⟨zb, m1, rfl, rfl, hbm⟩
      · rw [if_neg (fun z => d (hsu.mp z)), if_neg d, if_pos rfl]; exact ⟨zl, m1, rfl, rfl, hlm⟩
    rw [if_neg c4, if_neg c4]
    by_cases c5 : nI kk = 5
    · rw [if_pos c5, if_neg c0]; exact ⟨zx, m1, rfl, rfl, inH_sub m3 (inH_sub hbs (x3 c0))⟩
    rw [if_neg c5]
    exact ⟨zb, m1, rfl, rfl, hbm⟩
