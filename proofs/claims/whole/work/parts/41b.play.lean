/-! FOUR TRICKS -/
theorem beat1 {fo ld tr : Nat} (hf : fo < 32) (hl : ld < 32) (ht : tr < 4) : (m_X0_beating ((1 : Int32) <<< (nI fo &&& 31)) (nI ld) (nI tr) = 0) ↔ btsB fo ld tr = false := by
  constructor
  · intro h
    have h1 : bt (m_X0_beating ((1 : Int32) <<< (nI fo &&& 31)) (nI ld) (nI tr)) fo = false := by rw [h, b_0]
    rw [beating_bt _ hl ht hf, bt_one ⟨fo, hf⟩ ⟨fo, hf⟩] at h1
    simpa using h1
  · intro h
    apply b_ext
    intro i hi
    rw [beating_bt _ hl ht hi, bt_one ⟨fo, hf⟩ ⟨i, hi⟩, b_0]
    dsimp only
    by_cases e : i = fo
    · subst e; simp [h]
    · simp [e]
def rmv (h z : Int32) : Int32 := h &&& (((1 : Int32) <<< (z &&& 31)) ^^^ (-1))
theorem one_sub {f : Nat} (hf : f < 2) : (1 : Int32) - nI f = nI (1 - f) := pk_sub (a := 1) (by omega)
/-- the game behind a trick -/
def gTr (g : pv_GT) (tt f v : Nat) (ld fo : Int32) : pv_GT := (upd (upd g.1 f (rmv (g.1 f) ld)) (1 - f) (rmv (g.1 (1 - f)) fo), upd g.2.1 tt (if f = 0 then ld else fo), upd g.2.2.1 tt (if f = 0 then fo else ld), upd g.2.2.2.1 tt (nI f), upd g.2.2.2.2 tt (nI v))
theorem trickX {T : pv_TT} {g : pv_GT} {M tt f ef eo ld fo : Nat} {may : Int32} (hf : f < 2) (ht : tt < 4) (hM : T.1 = nI M) (hM2 : M < 2 ^ 31) (h1 : T.2.2.2.2.2.1 f = nI ef) (h1b : ef < 8) (h2 : T.2.2.2.2.2.1 (1 - f) = nI eo) (h2b : eo < 8) (hl : ld < 32) (hfo : fo < 32)
    (a1 : m_X2_lead (T.2.2.2.2.2.2.1 ef) (g.1 f) (nI (M % 4)) = some (nI ld)) (a2 : m_X2_mayPlay (T.2.2.2.2.2.2.1 eo) (g.1 (1 - f)) (nI ld) (nI M) = some may) (a3 : m_X2_follow (T.2.2.2.2.2.2.1 eo) may (nI ld) (nI (M % 4)) = some (nI fo)) :
    m_X1_playTrick (nI tt) (nI f) (T, g) = some (T, gTr g tt f (if btsB fo ld (M % 4) = true then 1 - f else f) (nI ld) (nI fo)) := by
  have htr : m_X4_trump T = nI (M % 4) := by unfold m_X4_trump; rw [hM]; exact lit_rem4 hM2
  have hne : (1 - f) ≠ f := by omega
  have hu : upd g.1 f (rmv (g.1 f) (nI ld)) (1 - f) = g.1 (1 - f) := pk_un hne
  have hb := beat1 hfo hl (show M % 4 < 4 by omega)
  have hf0 : (nI f = 0) ↔ f = 0 := nI_eq (b := 0) (by omega) (by omega)
  have h146 : ∀ (y2 : Int32) (w : pv_TT × pv_GT), m_X1_playTrick_146 (nI tt) (nI f) (nI (1 - f)) (nI (M % 4)) (nI ld) (nI fo) (nI tt) y2 w = some (w.1, (w.2.1, w.2.2.1, upd w.2.2.2.1 tt y2, upd w.2.2.2.2.1 tt (nI f), upd w.2.2.2.2.2 tt (nI (if btsB fo ld (M % 4) = true then 1 - f else f)))) := by
    intro y2 w
    unfold m_X1_playTrick_146
    rw [gd_nI ht (by omega), gd_nI ht (by omega), gd_nI ht (by omega), gd_nI ht (by omega), nI_clamp (by omega)]
    by_cases hc : btsB fo ld (M % 4) = true
    · rw [if_neg (fun z => by rw [hb.mp z] at hc; cases hc), if_pos hc]
    · rw [if_pos (hb.mpr (by simpa using hc)), if_neg hc]
  have h129 : ∀ (y2 : Int32) (w : pv_TT × pv_GT), m_X1_playTrick_129 (nI tt) (nI f) (nI (1 - f)) (nI (M % 4)) (nI ld) (nI fo) (nI tt) y2 w = some (w.1, (w.2.1, upd w.2.2.1 tt y2, upd w.2.2.2.1 tt (if f = 0 then nI fo else nI ld), upd w.2.2.2.2.1 tt (nI f), upd w.2.2.2.2.2 tt (nI (if btsB fo ld (M % 4) = true then 1 - f else f)))) := by
    intro y2 w
    unfold m_X1_playTrick_129
    rw [gd_nI ht (by omega), h146, h146, nI_clamp (by omega)]
    by_cases hc : f = 0
    · rw [if_pos (hf0.mpr hc), if_pos hc]
    · rw [if_neg (fun z => hc (hf0.mp z)), if_neg hc]
  unfold m_X1_playTrick
  dsimp only
  rw [one_sub hf, gd_nI (by omega) (by omega), nI_clamp (show 1 - f < 2 ^ 31 by omega), h2, gd_nI h2b (by omega), gd_nI hf (by omega), nI_clamp (show f < 2 ^ 31 by omega), h1, gd_nI h1b (by omega), gd_nI hf (by omega), nI_clamp (show ef < 2 ^ 31 by omega), nI_clamp (show eo < 2 ^ 31 by omega), htr, a1]
  simp only [Option.bind_some]
  rw [gd_nI (by omega) (by omega), hM, a2]
  simp only [Option.bind_some]
  rw [a3]
  simp only [Option.bind_some]
  rw [gd_nI hf (by omega), gd_nI hf (by omega), gd_nI (by omega) (by omega), gd_nI (by omega) (by omega)]
  have hu2 : upd g.1 f (g.1 f &&& (((1 : Int32) <<< (nI ld &&& 31)) ^^^ (-1))) (1 - f) = g.1 (1 - f) := hu
  rw [hu2]
  rw [h129, h129]
  unfold gTr rmv
  by_cases hc : f = 0
  · rw [if_pos (hf0.mpr hc), if_pos hc, if_pos hc]
  · rw [if_neg (fun z => hc (hf0.mp z)), if_neg hc, if_neg hc]
/-- the reference behind a trick -/
def wTr (w : pv_MT) (tt f v : Nat) (ld fo : Int32) : pv_MT := (w.1, w.2.1, w.2.2.1, w.2.2.2.1, w.2.2.2.2.1, upd (upd (upd (upd w.2.2.2.2.2.1 (4 * tt + f) ld) (4 * tt + (1 - f)) fo) (4 * tt + 2) (nI f)) (4 * tt + 3) (nI v), upd (upd w.2.2.2.2.2.2.1 f (rmv (w.2.2.2.2.2.2.1 f) ld)) (1 - f) (rmv (w.2.2.2.2.2.2.1 (1 - f)) fo), w.2.2.2.2.2.2.2)
theorem trickM {w : pv_MT} {M tt f ef eo ld fo many n : Nat} (hf : f < 2) (ht : tt < 4) (hM : w.1 0 = nI M) (hM2 : M < 2 ^ 31) (h1 : w.1 (3 + f) = nI ef) (h2 : w.1 (3 + (1 - f)) = nI eo) (hl : ld < 32) (hfo : fo < 32)
    (a1 : m_X7_ledBy (nI ef) (w.2.2.2.2.2.2.1 f) w = some (nI ld)) (a2 : m_X7_followedBy (nI eo) (w.2.2.2.2.2.2.1 (1 - f)) (nI ld) w = some (nI fo)) :
    ∃ v, v < 2 ∧ v = (if btsB fo ld (M % 4) = true then 1 - f else f) ∧ m_X7_plays_35 (n + 1) (nI f) (nI many) (nI tt) w = m_X7_plays_35 n (nI v) (nI (many + if v = 0 then 1 else 0)) (nI (tt + 1)) (wTr w tt f v (nI ld) (nI fo)) := by
  have hne : (1 - f) ≠ f := by omega
  have hu : upd w.2.2.2.2.2.2.1 f (w.2.2.2.2.2.2.1 f &&& (((1 : Int32) <<< (nI ld &&& 31)) ^^^ (-1))) (1 - f) = w.2.2.2.2.2.2.1 (1 - f) := pk_un hne
  have hle : ¬ (4 : Int32) ≤ nI tt := nI_ge (b := 4) (by omega) (by omega)
  have h106 : ∀ v, v < 2 → m_X7_plays_106 (m_X7_plays_35 n) (nI f) (nI many) (nI tt) (nI (1 - f)) (nI ld) (nI fo) (nI v) w = m_X7_plays_35 n (nI v) (nI (many + if v = 0 then 1 else 0)) (nI (tt + 1)) (wTr w tt f v (nI ld) (nI fo)) := by
    intro v hv
    have hv0 : (nI v = 0) ↔ v = 0 := nI_eq (b := 0) (by omega) (by omega)
    unfold m_X7_plays_106 m_X7_plays_198
    rw [show (4 : Int32) = nI 4 from rfl, show (2 : Int32) = nI 2 from rfl, show (3 : Int32) = nI 3 from rfl, pk_mul, nI_add, nI_add, nI_add, nI_add, gd_nI (by omega) (by omega), gd_nI (by omega) (by omega), gd_nI (by omega) (by omega), gd_nI (by omega) (by omega), gd_nI (by omega) (by omega), gd_nI (by omega) (by omega), gd_nI (by omega) (by omega), gd_nI (by omega) (by omega), nI_clamp (show f < 2 ^ 31 by omega), nI_clamp (show 1 - f < 2 ^ 31 by omega), nI_clamp (show 4 * tt + f < 2 ^ 31 by omega), nI_clamp (show 4 * tt + (1 - f) < 2 ^ 31 by omega), nI_clamp (show 4 * tt + 2 < 2 ^ 31 by omega), nI_clamp (show 4 * tt + 3 < 2 ^ 31 by omega), hu]
    by_cases hc : v = 0
    · rw [if_pos (hv0.mpr hc), if_pos hc, nI_1 many, nI_1 tt]
      rfl
    · rw [if_neg (fun z => hc (hv0.mp z)), if_neg hc, show nI many + 0 = nI (many + 0) from nI_add many 0, nI_1 tt]
      rfl
  rw [m_X7_plays_35_s, if_neg hle, one_sub hf, show (3 : Int32) = nI 3 from rfl, nI_add, nI_add, gd_nI (by omega) (by omega), gd_nI hf (by omega), nI_clamp (show 3 + f < 2 ^ 31 by omega), nI_clamp (show f < 2 ^ 31 by omega), h1, a1]
  simp only [Option.bind_some]
  rw [gd_nI (by omega) (by omega), gd_nI (by omega) (by omega), nI_clamp (show 3 + (1 - f) < 2 ^ 31 by omega), nI_clamp (show 1 - f < 2 ^ 31 by omega), h2, a2]
  simp only [Option.bind_some]
  rw [doesBeat_eq hM hM2 hfo hl]
  simp only [Option.bind_some]
  by_cases hc : btsB fo ld (M % 4) = true
  · rw [if_pos hc, if_pos hc, if_neg (by decide)]
    exact ⟨1 - f, by omega, rfl, h106 _ (by omega)⟩
  · rw [if_neg hc, if_neg hc, if_pos rfl]
    exact ⟨f, hf, rfl, h106 _ hf⟩
/-- the game and what the reference has of it, t tricks on -/
def PR (t : Nat) (g : pv_GT) (w : pv_MT) : Prop := (∀ j, j < 2 → g.1 j = w.2.2.2.2.2.2.1 j) ∧ ∀ j, j < t → g.2.1 j = w.2.2.2.2.2.1 (4 * j) ∧ g.2.2.1 j = w.2.2.2.2.2.1 (4 * j + 1) ∧ g.2.2.2.1 j = w.2.2.2.2.2.1 (4 * j + 2) ∧ g.2.2.2.2 j = w.2.2.2.2.2.1 (4 * j + 3) ∧ (g.2.2.2.2 j = 0 ∨ g.2.2.2.2 j = 1)
def nW (g : pv_GT) (t : Nat) : Nat := fb_ct (fun j => decide (g.2.2.2.2 j = 0)) t
theorem PR_step {t f v : Nat} {g : pv_GT} {w : pv_MT} {ld fo : Int32} (h : PR t g w) (hf : f < 2) (hv : v < 2) : PR (t + 1) (gTr g t f v ld fo) (wTr w t f v ld fo) := by
  obtain ⟨h1, h2⟩ := h
  refine ⟨fun j hj => ?_, fun j hj => ?_⟩
  · show upd (upd g.1 f (rmv (g.1 f) ld)) (1 - f) (rmv (g.1 (1 - f)) fo) j = upd (upd w.2.2.2.2.2.2.1 f (rmv (w.2.2.2.2.2.2.1 f) ld)) (1 - f) (rmv (w.2.2.2.2.2.2.1 (1 - f)) fo) j
    rw [h1 f hf, h1 (1 - f) (by omega)]
    by_cases e1 : j = 1 - f
    · subst e1; rw [pk_us, pk_us]
    · rw [pk_un e1, pk_un e1]
      have e2 : j = f := by omega
      subst e2
      rw [pk_us, pk_us]
  · show upd g.2.1 t (if f = 0 then ld else fo) j = _ ∧ upd g.2.2.1 t (if f = 0 then fo else ld) j = _ ∧ upd g.2.2.2.1 t (nI f) j = _ ∧ upd g.2.2.2.2 t (nI v) j = _ ∧ (upd g.2.2.2.2 t (nI v) j = 0 ∨ upd g.2.2.2.2 t (nI v) j = 1)
    have pl : (wTr w t f v ld fo).2.2.2.2.2.1 = upd (upd (upd (upd w.2.2.2.2.2.1 (4 * t + f) ld) (4 * t + (1 - f)) fo) (4 * t + 2) (nI f)) (4 * t + 3) (nI v) := rfl
    rw [pl]
    rcases Nat.lt_or_ge j t with hjt | hjt
    · obtain ⟨a1, a2, a3, a4, a5⟩ := h2 j hjt
      rw [pk_un (show j ≠ t by omega), pk_un (show j ≠ t by omega), pk_un (show j ≠ t by omega), pk_un (show j ≠ t by omega)]
      have un : ∀ i, i < 4 → upd (upd (upd (upd w.2.2.2.2.2.1 (4 * t + f) ld) (4 * t + (1 - f)) fo) (4 * t + 2) (nI f)) (4 * t + 3) (nI v) (4 * j + i) = w.2.2.2.2.2.1 (4 * j + i) := fun i hi => by
        rw [pk_un (by omega), pk_un (by omega), pk_un (by omega), pk_un (by omega)]
      have u0 : upd (upd (upd (upd w.2.2.2.2.2.1 (4 * t + f) ld) (4 * t + (1 - f)) fo) (4 * t + 2) (nI f)) (4 * t + 3) (nI v) (4 * j) = w.2.2.2.2.2.1 (4 * j) := un 0 (by omega)
      rw [u0, un 1 (by omega), un 2 (by omega), un 3 (by omega)]
      exact ⟨a1, a2, a3, a4, a5⟩
    · have e : j = t := by omega
      subst e
      rw [pk_us, pk_us, pk_us, pk_us, pk_us]
      have hv2 : nI v = 0 ∨ nI v = 1 := by
        rcases (show v = 0 ∨ v = 1 by omega) with rfl | rfl
        · exact Or.inl rfl
        · exact Or.inr rfl
      refine ⟨?_, ?_, ?_, rfl, hv2⟩
      · rw [pk_un (by omega), pk_un (by omega)]
        by_cases hc : f = 0
        · subst hc; rw [if_pos rfl, pk_un (by omega)]; rw [show 4 * j + 0 = 4 * j by omega, pk_us]
        · have : f = 1 := by omega
          subst this
          rw [if_neg (by omega), show 4 * j + (1 - 1) = 4 * j by omega, pk_us]
      · rw [pk_un (by omega), pk_un (by omega)]
        by_cases hc : f = 0
        · subst hc; rw [if_pos rfl, show 4 * j + (1 - 0) = 4 * j + 1 by omega, pk_us]
        · have : f = 1 := by omega
          subst this
          rw [if_neg (by omega), show 4 * j + (1 - 1) = 4 * j by omega, pk_un (by omega), pk_us]
      · rw [pk_un (by omega), pk_us]
theorem nW_step (g : pv_GT) (t f v : Nat) (ld fo : Int32) (hv : v < 2) : nW (gTr g t f v ld fo) (t + 1) = nW g t + if v = 0 then 1 else 0 := by
  unfold nW
  rw [fb_ct_succ]
  have h1 : fb_ct (fun j => decide ((gTr g t f v ld fo).2.2.2.2 j = 0)) t = fb_ct (fun j => decide (g.2.2.2.2 j = 0)) t := by
    apply fb_ct_cong
    intro k hk
    show decide (upd g.2.2.2.2 t (nI v) k = 0) = _
    rw [pk_un (by omega)]
  rw [h1]
  show _ + (if decide (upd g.2.2.2.2 t (nI v) t = 0) = true then 1 else 0) = _
  rw [pk_us]
  have hv0 : (nI v = 0) ↔ v = 0 := nI_eq (b := 0) (by omega) (by omega)
  by_cases hc : v = 0
  · simp [hc, hv0.mpr hc]
    rfl
  · have : ¬ nI v = 0 := fun z => hc (hv0.mp z)
    simp [hc, this]
/-- the four tricks: both play them alike -/
theorem plays_loop {T : pv_TT} {B : Nat} (hI : IT T B) (hB : B < 2 ^ 20) (hs : ∀ s, s < 2 → ∃ e, e < 8 ∧ T.2.2.2.2.2.1 s = nI e) : ∀ (k t n1 n2 f many : Nat) (g : pv_GT) (w : pv_MT), t + k = 4 → k < n1 → k < n2 → f < 2 → RT T w.1 → PR t g w → many = nW g t → (∀ j, j < 2 → cntI (g.1 j) = k) →
    ∃ g' w', m_X1_play_31 n1 (nI f) (nI t) (T, g) = some (T, g') ∧ m_X7_plays_35 n2 (nI f) (nI many) (nI t) w = some (nI (nW g' 4), w') ∧ PR 4 g' w' ∧ w'.1 = w.1 ∧ core w' = core w := by
  intro k
  induction k with
  | zero =>
    intro t n1 n2 f many g w ht h1 h2 hf hR hP hm hc
    obtain ⟨n1, rfl⟩ : ∃ n', n1 = n' + 1 := ⟨n1 - 1, by omega⟩
    obtain ⟨n2, rfl⟩ : ∃ n', n2 = n' + 1 := ⟨n2 - 1, by omega⟩
    have e4 : t = 4 := by omega
    subst e4
    subst hm
    refine ⟨g, w, ?_, ?_, hP, rfl, rfl⟩
    · rw [m_X1_play_31_s]; exact if_pos (by decide)
    · rw [m_X7_plays_35_s]; exact if_pos (by decide)
  | succ k ih =>
    intro t n1 n2 f many g w ht h1 h2 hf hR hP hm hc
    obtain ⟨n1, rfl⟩ : ∃ n', n1 = n' + 1 := ⟨n1 - 1, by omega⟩
    obtain ⟨n2, rfl⟩ : ∃ n', n2 = n' + 1 := ⟨n2 - 1, by omega⟩
    obtain ⟨⟨M, hM, eM⟩, -, -, -, -, hkd, -⟩ := id hI
    obtain ⟨ef, hef, es1⟩ := hs f hf
    obtain ⟨eo, heo, es2⟩ := hs (1 - f) (by omega)
    obtain ⟨kf, hkf, ekf⟩ := hkd ef hef
    obtain ⟨ko, hko, eko⟩ := hkd eo heo
    obtain ⟨r0, r1, r2, r3, r4, r5, r6, r7⟩ := id hR
    have wM : w.1 0 = nI M := r0.trans eM
    have ha := hc f hf
    have hb := hc (1 - f) (by omega)
    have nz1 : ¬ g.1 f = 0 := cnt_pos (by omega)
    have nz2 : ¬ g.1 (1 - f) = 0 := cnt_pos (by omega)
    obtain ⟨zl, l1, l2, l3⟩ := lead_ok (k := T.2.2.2.2.2.2.1 ef) (g.1 f) wM (by omega) hef (r6 ef hef)
    obtain ⟨ld, hld, rfl, hbl⟩ := l3 nz1
    obtain ⟨may, zf, f1, f2, f3, f4⟩ := follow_ok (g.1 (1 - f)) wM (by omega) heo hko ((r6 eo heo).trans eko) hld nz2
    obtain ⟨fo, hfo, rfl, hbf⟩ := id f4
    rw [hP.1 f hf] at l2
    rw [hP.1 (1 - f) (by omega)] at f3
    rw [← eko] at f1 f2
    have hX := trickX (g := g) hf (show t < 4 by omega) eM (by omega) es1 hef es2 heo hld hfo l1 f1 f2
    obtain ⟨v, hv, ev, hMs⟩ := trickM (w := w) (n := n2) (many := many) hf (show t < 4 by omega) wM (by omega) ((r3 f hf).trans es1) ((r3 (1 - f) (by omega)).trans es2) hld hfo l2 f3
    rw [← ev] at hX
    have hle : ¬ (4 : Int32) ≤ nI t := nI_ge (b := 4) (by omega) (by omega)
    have hstep : m_X1_play_31 (n1 + 1) (nI f) (nI t) (T, g) = m_X1_play_31 n1 (nI v) (nI (t + 1)) (T, gTr g t f v (nI ld) (nI fo)) := by
      rw [m_X1_play_31_s, if_neg hle, hX]
      simp only [Option.bind_some]
      rw [gd_nI (by omega) (by omega), nI_clamp (by omega), nI_1]
      have hw : (gTr g t f v (nI ld) (nI fo)).2.2.2.2 t = nI v := pk_us
      rw [hw]
    have hcnt : ∀ j, j < 2 → cntI ((gTr g t f v (nI ld) (nI fo)).1 j) = k := by
      intro j hj
      show cntI (upd (upd g.1 f (rmv (g.1 f) (nI ld))) (1 - f) (rmv (g.1 (1 - f)) (nI fo)) j) = k
      by_cases e1 : j = 1 - f
      · subst e1
        rw [pk_us]
        have := cnt_rem (h := g.1 (1 - f)) (z := nI fo) ⟨fo, hfo, rfl, hbf⟩
        unfold rmv
        omega
      · rw [pk_un e1]
        have e2 : j = f := by omega
        subst e2
        rw [pk_us]
        have := cnt_rem (h := g.1 j) (z := nI ld) ⟨ld, hld, rfl, hbl⟩
        unfold rmv
        omega
    obtain ⟨g', w', q1, q2, q3, q4, q5⟩ := ih (t + 1) n1 n2 v (many + if v = 0 then 1 else 0) (gTr g t f v (nI ld) (nI fo)) (wTr w t f v (nI ld) (nI fo)) (by omega) (by omega) (by omega) hv hR (PR_step hP hf hv) (by rw [nW_step g t f v _ _ hv, hm]) hcnt
    exact ⟨g', w', hstep.trans q1, hMs.trans q2, q3, q4, q5⟩
