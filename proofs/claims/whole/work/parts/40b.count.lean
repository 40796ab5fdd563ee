/-! COUNTING BITS: Integer.bitCount and the reference's loop count alike -/
def pcF : Nat → Nat → Nat
  | 0, _ => 0
  | k + 1, n => n % 2 + pcF k (n / 2)
theorem pcF_0 : ∀ k, pcF k 0 = 0
  | 0 => rfl
  | k + 1 => by simp [pcF, pcF_0 k]
theorem pcF_clear : ∀ (k n : Nat), 0 < n → n < 2 ^ k → pcF k (n &&& (n - 1)) + 1 = pcF k n
  | 0, n, h0, h1 => by simp at h1; omega
  | k + 1, n, h0, h1 => by
    have hp : 2 ^ (k + 1) = 2 * 2 ^ k := by rw [Nat.pow_succ]; omega
    have hd : (n &&& (n - 1)) / 2 = n / 2 &&& (n - 1) / 2 := Nat.and_div_two
    have hm : (n &&& (n - 1)) % 2 = 0 := by
      have h2 := @Nat.and_mod_two_eq_one n (n - 1)
      rcases Nat.mod_two_eq_zero_or_one (n &&& (n - 1)) with h | h
      · exact h
      · have := h2.mp h; omega
    show (n &&& (n - 1)) % 2 + pcF k ((n &&& (n - 1)) / 2) + 1 = n % 2 + pcF k (n / 2)
    rw [hm, hd]
    rcases Nat.mod_two_eq_zero_or_one n with h | h
    · have e : (n - 1) / 2 = n / 2 - 1 := by omega
      have ih := pcF_clear k (n / 2) (by omega) (by omega)
      rw [e]
      omega
    · have e : (n - 1) / 2 = n / 2 := by omega
      rw [e, Nat.and_self]
      omega
theorem pcF_le : ∀ (k n : Nat), pcF k n ≤ k
  | 0, _ => Nat.le_refl _
  | k + 1, n => by
    have := pcF_le k (n / 2)
    show n % 2 + pcF k (n / 2) ≤ k + 1
    omega
theorem pcF_cat : ∀ (j k B a : Nat), a < 2 ^ j → pcF (j + k) (2 ^ j * B + a) = pcF j a + pcF k B
  | 0, k, B, a, h => by
    have : a = 0 := by simp at h; exact h
    subst this
    simp [pcF]
  | j + 1, k, B, a, h => by
    have hp : 2 ^ (j + 1) = 2 * 2 ^ j := by rw [Nat.pow_succ]; omega
    have e1 : (2 ^ (j + 1) * B + a) % 2 = a % 2 := by
      rw [hp, Nat.mul_assoc]; omega
    have e2 : (2 ^ (j + 1) * B + a) / 2 = 2 ^ j * B + a / 2 := by
      rw [hp, Nat.mul_assoc]; omega
    rw [show j + 1 + k = (j + k) + 1 by omega]
    show (2 ^ (j + 1) * B + a) % 2 + pcF (j + k) ((2 ^ (j + 1) * B + a) / 2) = a % 2 + pcF j (a / 2) + pcF k B
    rw [e1, e2, pcF_cat j k B (a / 2) (by omega)]
    omega
theorem and_cat (b y : Nat) {a x : Nat} (ha : a < 256) (hx : x < 256) : (256 * b + a) &&& (256 * y + x) = 256 * (b &&& y) + (a &&& x) := by
  apply Nat.eq_of_testBit_eq
  intro i
  have h1 : (a &&& x) < 2 ^ 8 := Nat.lt_of_le_of_lt Nat.and_le_left ha
  rw [Nat.testBit_and, show (256 : Nat) = 2 ^ 8 from rfl, Nat.testBit_two_pow_mul_add b ha, Nat.testBit_two_pow_mul_add y hx, Nat.testBit_two_pow_mul_add (b &&& y) h1]
  by_cases h : i < 8
  · simp [h, Nat.testBit_and]
  · simp [h, Nat.testBit_and]
def w1 (a : Nat) : Nat := a - ((a / 2) &&& 85)
def w2 (a : Nat) : Nat := (w1 a &&& 51) + ((w1 a / 4) &&& 51)
def w3 (a : Nat) : Nat := (w2 a + w2 a / 16) % 16
theorem w_t1 : ∀ c : Fin 2, ∀ a : Fin 256, ((c.val * 128 + a.val / 2) &&& 85) = (a.val / 2 &&& 85) := by decide +kernel
theorem w_t2 : ∀ c : Fin 4, ∀ a : Fin 256, ((c.val * 64 + w1 a.val / 4) &&& 51) = (w1 a.val / 4 &&& 51) := by decide +kernel
theorem w_f : ∀ a : Fin 256, w1 a.val < 256 ∧ w2 a.val ≤ 68 ∧ w2 a.val % 16 ≤ 4 ∧ w3 a.val = pcF 8 a.val ∧ (a.val / 2 &&& 85) ≤ a.val := by decide +kernel
theorem w_t3 : ∀ c : Fin 5, ∀ a : Fin 256, ((w2 a.val + c.val * 16 + w2 a.val / 16) &&& 15) = w3 a.val := by decide +kernel
theorem S1_step (B m a : Nat) (ha : a < 256) : (256 * B + a) - (((256 * B + a) / 2) &&& (256 * m + 85)) = 256 * (B - ((B / 2) &&& m)) + w1 a := by
  have h1 : (256 * B + a) / 2 = 256 * (B / 2) + ((B % 2) * 128 + a / 2) := by omega
  have h3 := w_t1 ⟨B % 2, by omega⟩ ⟨a, ha⟩
  have h4 := (w_f ⟨a, ha⟩).2.2.2.2
  have h5 : (B / 2 &&& m) ≤ B := Nat.le_trans Nat.and_le_left (Nat.div_le_self _ _)
  dsimp only at h3 h4
  rw [h1, and_cat _ _ (by omega) (by omega), h3]
  unfold w1
  omega
theorem S2_step (B m a : Nat) (ha : a < 256) : ((256 * B + w1 a) &&& (256 * m + 51)) + (((256 * B + w1 a) / 4) &&& (256 * m + 51)) = 256 * ((B &&& m) + ((B / 4) &&& m)) + w2 a := by
  have hw := (w_f ⟨a, ha⟩).1
  dsimp only at hw
  have h1 : (256 * B + w1 a) / 4 = 256 * (B / 4) + ((B % 4) * 64 + w1 a / 4) := by omega
  have h3 := w_t2 ⟨B % 4, by omega⟩ ⟨a, ha⟩
  dsimp only at h3
  rw [h1, and_cat _ _ hw (by omega), and_cat _ _ (by omega) (by omega), h3]
  unfold w2
  omega
theorem S3_step (B m a c : Nat) (ha : a < 256) (hc : B % 16 = c) (hc4 : c ≤ 4) : ((256 * B + w2 a) + (256 * B + w2 a) / 16) &&& (256 * m + 15) = 256 * ((B + B / 16) &&& m) + w3 a := by
  have hw := (w_f ⟨a, ha⟩).2.1
  dsimp only at hw
  have h1 : (256 * B + w2 a) + (256 * B + w2 a) / 16 = 256 * (B + B / 16) + (w2 a + c * 16 + w2 a / 16) := by omega
  have h3 := w_t3 ⟨c, by omega⟩ ⟨a, ha⟩
  dsimp only at h3
  rw [h1, and_cat _ _ (by omega) (by omega), h3]
theorem pv_us1 {n : Nat} (hn : n < 2 ^ 32) : pv_ushr (nI n) 1 = nI (n / 2) := pk_ushrN hn 1 1 (by decide)
theorem pv_us2 {n : Nat} (hn : n < 2 ^ 32) : pv_ushr (nI n) 2 = nI (n / 4) := pk_ushrN hn 2 2 (by decide)
theorem pv_us4 {n : Nat} (hn : n < 2 ^ 32) : pv_ushr (nI n) 4 = nI (n / 16) := pk_ushrN hn 4 4 (by decide)
theorem pv_us8 {n : Nat} (hn : n < 2 ^ 32) : pv_ushr (nI n) 8 = nI (n / 256) := pk_ushrN hn 8 8 (by decide)
theorem pv_us16 {n : Nat} (hn : n < 2 ^ 32) : pv_ushr (nI n) 16 = nI (n / 65536) := pk_ushrN hn 16 16 (by decide)
def bcA (n m : Nat) : Nat := n - ((n / 2) &&& m)
def bcB (t m : Nat) : Nat := (t &&& m) + ((t / 4) &&& m)
def bcC (t m : Nat) : Nat := (t + t / 16) &&& m
theorem bcA_step (B m a : Nat) (ha : a < 256) : bcA (256 * B + a) (256 * m + 85) = 256 * bcA B m + w1 a := S1_step B m a ha
theorem bcB_step (B m a : Nat) (ha : a < 256) : bcB (256 * B + w1 a) (256 * m + 51) = 256 * bcB B m + w2 a := S2_step B m a ha
theorem bcC_step (B m a c : Nat) (ha : a < 256) (hc : B % 16 = c) (hc4 : c ≤ 4) : bcC (256 * B + w2 a) (256 * m + 15) = 256 * bcC B m + w3 a := S3_step B m a c ha hc hc4
def bcM (z : Nat) : Nat := 256 * (256 * (256 * (256 * 0 + z) + z) + z) + z
def bcW (f : Nat → Nat) (a0 a1 a2 a3 : Nat) : Nat := 256 * (256 * (256 * (256 * 0 + f a3) + f a2) + f a1) + f a0
theorem bcA_W {a0 a1 a2 a3 : Nat} (h0 : a0 < 256) (h1 : a1 < 256) (h2 : a2 < 256) (h3 : a3 < 256) : bcA (bcW id a0 a1 a2 a3) (bcM 85) = bcW w1 a0 a1 a2 a3 := by
  unfold bcW bcM
  simp only [id]
  rw [bcA_step _ _ _ h0, bcA_step _ _ _ h1, bcA_step _ _ _ h2, bcA_step _ _ _ h3]
  rfl
theorem bcB_W {a0 a1 a2 a3 : Nat} (h0 : a0 < 256) (h1 : a1 < 256) (h2 : a2 < 256) (h3 : a3 < 256) : bcB (bcW w1 a0 a1 a2 a3) (bcM 51) = bcW w2 a0 a1 a2 a3 := by
  unfold bcW bcM
  rw [bcB_step _ _ _ h0, bcB_step _ _ _ h1, bcB_step _ _ _ h2, bcB_step _ _ _ h3]
  rfl
theorem bcC_W {a0 a1 a2 a3 : Nat} (h0 : a0 < 256) (h1 : a1 < 256) (h2 : a2 < 256) (h3 : a3 < 256) : bcC (bcW w2 a0 a1 a2 a3) (bcM 15) = bcW w3 a0 a1 a2 a3 := by
  have f1 := (w_f ⟨a1, h1⟩).2.2.1
  have f2 := (w_f ⟨a2, h2⟩).2.2.1
  have f3 := (w_f ⟨a3, h3⟩).2.2.1
  dsimp only at f1 f2 f3
  unfold bcW bcM
  rw [bcC_step _ _ _ (w2 a1 % 16) h0 (by omega) f1, bcC_step _ _ _ (w2 a2 % 16) h1 (by omega) f2, bcC_step _ _ _ (w2 a3 % 16) h2 (by omega) f3, bcC_step _ _ _ 0 h3 rfl (by omega)]
  rfl
theorem bcW_lt {f : Nat → Nat} {a0 a1 a2 a3 : Nat} (h0 : f a0 < 256) (h1 : f a1 < 256) (h2 : f a2 < 256) (h3 : f a3 < 256) : bcW f a0 a1 a2 a3 < 2 ^ 32 := by
  unfold bcW
  omega
theorem bcJ1 {n : Nat} (hn : n < 2 ^ 32) : nI n - (pv_ushr (nI n) 1 &&& 1431655765) = nI (bcA n (bcM 85)) := by
  rw [pv_us1 hn, fa_lit 1431655765, fa_and, pk_sub (Nat.le_trans Nat.and_le_left (Nat.div_le_self _ _))]
  rfl
theorem bcJ2 {n : Nat} (hn : n < 2 ^ 32) : (nI n &&& 858993459) + (pv_ushr (nI n) 2 &&& 858993459) = nI (bcB n (bcM 51)) := by
  rw [pv_us2 hn, fa_lit 858993459, fa_and, fa_and, nI_add]
  rfl
theorem bcJ3 {n : Nat} (hn : n < 2 ^ 32) : (nI n + pv_ushr (nI n) 4) &&& 252645135 = nI (bcC n (bcM 15)) := by
  rw [pv_us4 hn, fa_lit 252645135, nI_add, fa_and]
  rfl
theorem bcJ4 {n : Nat} (hn : n < 2 ^ 32) : nI n + pv_ushr (nI n) 8 = nI (n + n / 256) := by
  rw [pv_us8 hn, nI_add]
theorem bcJ5 {n : Nat} (hn : n < 2 ^ 32) : (nI n + pv_ushr (nI n) 16) &&& 63 = nI ((n + n / 65536) % 64) := by
  rw [pv_us16 hn, nI_add, fa_lit 63]
  exact fa_mask _ 6
theorem bc_end {p0 p1 p2 p3 : Nat} (q0 : p0 ≤ 8) (q1 : p1 ≤ 8) (q2 : p2 ≤ 8) (q3 : p3 ≤ 8) (t u : Nat) (ht : t = 256 * (256 * (256 * p3 + p2) + p1) + p0) (hu : u = t + t / 256) : (u + u / 65536) % 64 = p0 + (p1 + (p2 + p3)) := by
  have h1 : t / 256 = 256 * (256 * p3 + p2) + p1 := by omega
  have h2 : u = 65536 * (256 * p3 + (p2 + p3)) + (256 * (p1 + p2) + (p0 + p1)) := by omega
  have h3 : u / 65536 = 256 * p3 + (p2 + p3) := by
    rw [h2, Nat.mul_add_div (by decide), Nat.div_eq_of_lt (by omega), Nat.add_zero]
  rw [h3, h2]
  omega
theorem bitCount_nI (n : Nat) (hn : n < 2 ^ 32) : m_J6_bitCount_0f7a4 (nI n) = nI (pcF 32 n) := by
  obtain ⟨a0, a1, a2, a3, h0, h1, h2, h3, e⟩ : ∃ a0 a1 a2 a3, a0 < 256 ∧ a1 < 256 ∧ a2 < 256 ∧ a3 < 256 ∧ n = bcW id a0 a1 a2 a3 :=
    ⟨n % 256, n / 256 % 256, n / 65536 % 256, n / 16777216, by omega, by omega, by omega, by omega, by unfold bcW; simp only [id]; omega⟩
  have f0 := w_f ⟨a0, h0⟩
  have f1 := w_f ⟨a1, h1⟩
  have f2 := w_f ⟨a2, h2⟩
  have f3 := w_f ⟨a3, h3⟩
  dsimp only at f0 f1 f2 f3
  have q0 := pcF_le 8 a0
  have q1 := pcF_le 8 a1
  have q2 := pcF_le 8 a2
  have q3 := pcF_le 8 a3
  have t32 : pcF 32 n = pcF 8 a0 + (pcF 8 a1 + (pcF 8 a2 + pcF 8 a3)) := by
    rw [e]
    unfold bcW
    simp only [id]
    have c0 := pcF_cat 8 24 (256 * (256 * (256 * 0 + a3) + a2) + a1) a0 h0
    have c1 := pcF_cat 8 16 (256 * (256 * 0 + a3) + a2) a1 h1
    have c2 := pcF_cat 8 8 (256 * 0 + a3) a2 h2
    rw [show 256 * 0 + a3 = a3 by omega] at c0 c1 c2 ⊢
    exact c0.trans (congrArg (fun z => pcF 8 a0 + z) (c1.trans (congrArg (fun z => pcF 8 a1 + z) c2)))
  unfold m_J6_bitCount_0f7a4
  rw [bcJ1 hn, e, bcA_W h0 h1 h2 h3]
  unfold m_J6_bitCount_0f7a4_10
  rw [bcJ2 (bcW_lt f0.1 f1.1 f2.1 f3.1), bcB_W h0 h1 h2 h3]
  unfold m_J6_bitCount_0f7a4_24
  rw [bcJ3 (bcW_lt (by omega) (by omega) (by omega) (by omega)), bcC_W h0 h1 h2 h3]
  have hW : bcW w3 a0 a1 a2 a3 = 256 * (256 * (256 * pcF 8 a3 + pcF 8 a2) + pcF 8 a1) + pcF 8 a0 := by
    unfold bcW
    rw [f0.2.2.2.1, f1.2.2.2.1, f2.2.2.2.1, f3.2.2.2.1]
    omega
  unfold m_J6_bitCount_0f7a4_34
  rw [bcJ4 (by rw [hW]; omega)]
  unfold m_J6_bitCount_0f7a4_41
  rw [bcJ5 (by rw [hW]; omega), ← e, t32, bc_end q0 q1 q2 q3 _ _ hW rfl]
theorem nI_of32 (x : Int32) : ∃ n, n < 2 ^ 32 ∧ x = nI n := ⟨x.toBitVec.toNat, x.toBitVec.isLt, Int32.toBitVec_inj.mp (by show x.toBitVec = BitVec.ofNat 32 _; simp)⟩
theorem nI_inj32 {a b : Nat} (ha : a < 2 ^ 32) (hb : b < 2 ^ 32) (h : nI a = nI b) : a = b := by
  have h1 := congrArg (fun z : Int32 => z.toBitVec.toNat) h
  simpa [pk_tn ha, pk_tn hb] using h1
theorem bits_loop : ∀ (k fuel c n : Nat), n < 2 ^ 32 → pcF 32 n = k → k < fuel → m_X7_bits_4 fuel (nI c) (nI n) = some (nI (c + k)) := by
  intro k
  induction k with
  | zero =>
    intro fuel c n hn hk hf
    obtain ⟨f, rfl⟩ : ∃ f, fuel = f + 1 := ⟨fuel - 1, by omega⟩
    have h0 : n = 0 := by
      rcases Nat.eq_zero_or_pos n with h | h
      · exact h
      · have := pcF_clear 32 n h hn; omega
    subst h0
    show (if nI 0 = 0 then some (nI c) else m_X7_bits_4 f (nI c + 1) (nI 0 &&& (nI 0 - 1))) = _
    rw [if_pos nI_0]
    rfl
  | succ k ih =>
    intro fuel c n hn hk hf
    obtain ⟨f, rfl⟩ : ∃ f, fuel = f + 1 := ⟨fuel - 1, by omega⟩
    have h0 : 0 < n := by
      rcases Nat.eq_zero_or_pos n with h | h
      · subst h; rw [pcF_0] at hk; omega
      · exact h
    have hc := pcF_clear 32 n h0 hn
    have hne : ¬ nI n = 0 := fun h => by
      have := nI_inj32 hn (by omega) (h.trans nI_0.symm)
      omega
    show (if nI n = 0 then some (nI c) else m_X7_bits_4 f (nI c + 1) (nI n &&& (nI n - 1))) = _
    rw [if_neg hne, nI_1, show (1 : Int32) = nI 1 from rfl, pk_sub h0, fa_and, ih f (c + 1) (n &&& (n - 1)) (Nat.lt_of_le_of_lt Nat.and_le_left hn) (by omega) (by omega)]
    rw [show c + 1 + k = c + (k + 1) by omega]
theorem bits_eq (x : Int32) : m_X7_bits x = some (m_J6_bitCount_0f7a4 x) := by
  obtain ⟨n, hn, rfl⟩ := nI_of32 x
  rw [bitCount_nI n hn]
  have := bits_loop (pcF 32 n) 300 0 n hn rfl (by have := pcF_le 32 n; omega)
  rw [Nat.zero_add] at this
  exact this
theorem bitCount_le (n : Nat) (hn : n < 2 ^ 32) : ∃ k, k ≤ 32 ∧ m_J6_bitCount_0f7a4 (nI n) = nI k := ⟨_, pcF_le 32 n, bitCount_nI n hn⟩
