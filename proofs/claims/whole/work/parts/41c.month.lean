/-- THE TRICKS OF A MONTH -/
def wH (w : pv_MT) (h : Nat → Int32) : pv_MT := (w.1, w.2.1, w.2.2.1, w.2.2.2.1, w.2.2.2.2.1, w.2.2.2.2.2.1, h, w.2.2.2.2.2.2.2)
theorem playX_n (n : Nat) {T : pv_TT} {g : pv_GT} {R : Option (pv_TT × pv_GT)} {M : Nat} {h0 h1 : Int32} (hM : T.1 = nI M) (hM2 : M < 2 ^ 31) (a1 : m_X4_hand (nI 0) T = some h0) (b1 : m_X4_hand (nI 1) T = some h1) (q : m_X1_play_31 n (nI (M % 2)) (nI 0) (T, (upd (upd g.1 0 h0) 1 h1, g.2)) = R) :
    (Option.bind (m_X4_hand 0 T) fun u_1 => Option.bind (m_X4_hand 1 T) fun u_2 => m_X1_play_31 n (pv_rem T.1 2) 0 (T, (upd (upd g.1 0 u_1) 1 u_2, g.2))) = R := by
  have a2 : m_X4_hand 0 T = some h0 := a1
  have b2 : m_X4_hand 1 T = some h1 := b1
  rw [a2, b2, hM, lit_rem2 hM2]
  exact q
theorem playM_n (n : Nat) {w : pv_MT} {R : Option (Int32 × pv_MT)} {M : Nat} {h0 h1 : Int32} (hM : w.1 0 = nI M) (hM2 : M < 2 ^ 31) (a1 : m_X7_handOf (nI 0) w = some h0) (b1 : m_X7_handOf (nI 1) (wH w (upd w.2.2.2.2.2.2.1 0 h0)) = some h1) (q : m_X7_plays_35 n (nI (M % 2)) (nI 0) (nI 0) (wH w (upd (upd w.2.2.2.2.2.2.1 0 h0) 1 h1)) = R) :
    (Option.bind (m_X7_handOf 0 w) fun u_1 => Option.bind (m_X7_handOf 1 (wH w (upd w.2.2.2.2.2.2.1 0 u_1))) fun u_2 => m_X7_plays_35 n (pv_rem (w.1 0) 2) 0 0 (wH w (upd (upd w.2.2.2.2.2.2.1 0 u_1) 1 u_2))) = R := by
  have a2 : m_X7_handOf 0 w = some h0 := a1
  have b2 : m_X7_handOf 1 (wH w (upd w.2.2.2.2.2.2.1 0 h0)) = some h1 := b1
  rw [a2, hM, lit_rem2 hM2]
  show (Option.bind (m_X7_handOf 1 (wH w (upd w.2.2.2.2.2.2.1 0 h0))) fun u_2 => m_X7_plays_35 n (nI (M % 2)) 0 0 (wH w (upd (upd w.2.2.2.2.2.2.1 0 h0) 1 u_2))) = R
  rw [b2]
  exact q
theorem m_X1_play_e (T : pv_TT) (g : pv_GT) : m_X1_play (T, g) = (Option.bind (m_X4_hand 0 T) fun u_1 => Option.bind (m_X4_hand 1 T) fun u_2 => m_X1_play_31 300 (pv_rem T.1 2) 0 (T, (upd (upd g.1 0 u_1) 1 u_2, g.2))) := rfl
theorem m_X7_plays_e (w : pv_MT) : m_X7_plays w = (Option.bind (m_X7_handOf 0 w) fun u_1 => Option.bind (m_X7_handOf 1 (wH w (upd w.2.2.2.2.2.2.1 0 u_1))) fun u_2 => m_X7_plays_35 300 (pv_rem (w.1 0) 2) 0 0 (wH w (upd (upd w.2.2.2.2.2.2.1 0 u_1) 1 u_2))) := rfl
theorem play_n (n : Nat) (hn : 4 < n) {T : pv_TT} {g : pv_GT} {w : pv_MT} {B : Nat} (hR : RT T w.1) (hI : IT T B) (hB : B < 2 ^ 20) (hs : ∀ s, s < 2 → ∃ e, e < 8 ∧ T.2.2.2.2.2.1 s = nI e) :
    ∃ g' w', (Option.bind (m_X4_hand 0 T) fun u_1 => Option.bind (m_X4_hand 1 T) fun u_2 => m_X1_play_31 n (pv_rem T.1 2) 0 (T, (upd (upd g.1 0 u_1) 1 u_2, g.2))) = some (T, g') ∧ (Option.bind (m_X7_handOf 0 w) fun u_1 => Option.bind (m_X7_handOf 1 (wH w (upd w.2.2.2.2.2.2.1 0 u_1))) fun u_2 => m_X7_plays_35 n (pv_rem (w.1 0) 2) 0 0 (wH w (upd (upd w.2.2.2.2.2.2.1 0 u_1) 1 u_2))) = some (nI (nW g' 4), w') ∧ PR 4 g' w' ∧ w'.1 = w.1 ∧ core w' = core w := by
  obtain ⟨h0, a1, a2, a3⟩ := hand_ok hR hI hB (s := 0) (by omega)
  obtain ⟨hh1, b1, b2, b3⟩ := hand_ok (w := wH w (upd w.2.2.2.2.2.2.1 0 h0)) hR hI hB (s := 1) (by omega)
  obtain ⟨⟨M, hM, eM⟩, -⟩ := id hI
  have wM : w.1 0 = nI M := hR.1.trans eM
  have hPR : PR 0 (upd (upd g.1 0 h0) 1 hh1, g.2) (wH w (upd (upd w.2.2.2.2.2.2.1 0 h0) 1 hh1)) := by
    refine ⟨fun j hj => ?_, fun j hj => by omega⟩
    show upd (upd g.1 0 h0) 1 hh1 j = upd (upd w.2.2.2.2.2.2.1 0 h0) 1 hh1 j
    rcases (show j = 0 ∨ j = 1 by omega) with rfl | rfl
    · rw [pk_un (by omega), pk_us, pk_un (by omega), pk_us]
    · rw [pk_us, pk_us]
  have hcn : ∀ j, j < 2 → cntI (upd (upd g.1 0 h0) 1 hh1 j) = 4 := by
    intro j hj
    rcases (show j = 0 ∨ j = 1 by omega) with rfl | rfl
    · rw [pk_un (by omega), pk_us]; exact a3
    · rw [pk_us]; exact b3
  obtain ⟨g', w', q1, q2, q3, q4, q5⟩ := plays_loop hI hB hs 4 0 n n (M % 2) 0 (upd (upd g.1 0 h0) 1 hh1, g.2) (wH w (upd (upd w.2.2.2.2.2.2.1 0 h0) 1 hh1)) (by omega) hn hn (by omega) hR hPR rfl hcn
  exact ⟨g', w', playX_n n eM (by omega) a1 b1 q1, playM_n n wM (by omega) a2 b2 q2, q3, q4, q5⟩
theorem play_ok {T : pv_TT} {g : pv_GT} {w : pv_MT} {B : Nat} (hR : RT T w.1) (hI : IT T B) (hB : B < 2 ^ 20) (hs : ∀ s, s < 2 → ∃ e, e < 8 ∧ T.2.2.2.2.2.1 s = nI e) :
    ∃ g' w', m_X1_play (T, g) = some (T, g') ∧ m_X7_plays w = some (nI (nW g' 4), w') ∧ PR 4 g' w' ∧ w'.1 = w.1 ∧ core w' = core w := by
  rw [m_X1_play_e, m_X7_plays_e]
  exact play_n 300 (by omega) hR hI hB hs
