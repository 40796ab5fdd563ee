/-! THE ENVIRONMENT AT THE LAW'S ENTRY -/
def pv_fl : List Cond := flatC (Jvm.Cond.and given_1 narrow_1)
def pv_tms : List Term := [.string "ProvinceCards$Kinds" 9, .string "ProvinceCards$Kinds" 11, .string "ProvinceCards$Kinds" 13, .string "ProvinceCards$Kinds" 15, .string "ProvinceCards$Kinds" 17, .string "ProvinceCards$Kinds" 19, .string "ProvinceCards$Tape" 65, .string "ProvinceCards$Tape" 49, .string "ProvinceCards$Tape" 54, .string "ProvinceCards$Tape" 86]
def pv_tm (i : Nat) : Term := pv_tms.getD i (.arg 0)
def pv_exo : List Nat := [101, 110, 120, 133, 146, 157, 173, 186, 200, 220]
def pv_noff : List Nat := [110, 119, 131, 143, 153, 168, 180, 193, 212, 228]
theorem pv_fl_at {args : Array Value} {s : State} (hs : ∀ c ∈ pv_fl, c.before args s = true) {k : Nat} {c : Cond} (h : pv_fl[k]? = some c) : c.before args s = true := hs _ (List.mem_of_getElem? h)
theorem pv_s_ex : ∀ i : Fin 10, pv_fl[pv_exo.getD i 0]? = some (Cond.exactly (pv_tm i) "java/lang/String") := by decide +kernel
theorem pv_s_co : ∀ i : Fin 10, pv_fl[pv_exo.getD i 0 + 1]? = some (Cond.eq (.field (pv_tm i) "java/lang/String" "coder" "B") (.int 0)) := by decide +kernel
theorem pv_s_ar : ∀ i : Fin 10, pv_fl[pv_exo.getD i 0 + 2]? = some (Cond.arrayOf (.field (pv_tm i) "java/lang/String" "value" "[B") .byte) := by decide +kernel
theorem pv_s_le : ∀ i : Fin 10, pv_fl[pv_exo.getD i 0 + 3]? = some (Cond.eq (.length (.field (pv_tm i) "java/lang/String" "value" "[B")) (.int (Int32.ofNat (pv_len.getD i 0)))) := by decide +kernel
theorem pv_s_el : ∀ i : Fin 10, ∀ j : Fin 8, j.val < pv_len.getD i 0 → pv_fl[pv_exo.getD i 0 + 4 + j.val]? = some (Cond.eq (.elem (.field (pv_tm i) "java/lang/String" "value" "[B") (.int (Int32.ofNat j.val))) (.int ((pv_byt.getD i []).getD j.val 0))) := by decide +kernel
theorem pv_s_ne : ∀ j : Fin 10, ∀ i : Fin 10, i.val < j.val → pv_fl[pv_noff.getD j 0 + i.val]? = some (Cond.not (Cond.eq (pv_tm i) (pv_tm j))) := by decide +kernel
theorem pv_s_un : ∀ j : Fin 6, pv_fl[7 + j.val]? = some (Cond.eq (.elem (.static "ProvinceCards$Kinds" "UNDER" "[I") (.int (Int32.ofNat j.val))) (.int (pv_und j.val))) := by decide +kernel
theorem pv_s_na : ∀ j : Fin 80, pv_fl[21 + j.val]? = some (Cond.eq (.elem (.static "ProvinceCardsModel" "NAMES" "[I") (.int (Int32.ofNat j.val))) (.int (pv_nam j.val))) := by decide +kernel
theorem pv_arrk {args : Array Value} {s : State} {ty : FieldType} (h : (Cond.arrayClass ty).before args s = true) (hp : ∀ C, ty ≠ .object C) : ∃ cA, ArrOfT s cA ty ∧ va_RA s cA ty := by
  obtain ⟨cA, k, comp, h1, h2, h3⟩ := Cond.arrayClass_spec h
  refine ⟨cA, fun n z => ⟨fun k h => (by cases h), k, h2, comp, h3⟩, ?_⟩
  cases ty with
  | object C => exact absurd rfl (hp C)
  | _ => exact h1
set_option maxHeartbeats 4000000 in
set_option maxRecDepth 100000 in
theorem pv_start {s : State} {b : Nat} (hts : ∀ w ∈ lw_tbl, w.before #[Value.ref b] s = true) (hgv : (Jvm.Cond.and given_1 narrow_1).before #[Value.ref b] s = true) : ∃ E : pv_E, pv_Ev E (fun q : Nat => s.heap.size ≤ q) s s.heap ∧ pv_XX s := by
  have hs : ∀ c ∈ pv_fl, c.before #[Value.ref b] s = true := flat_of_before _ hgv
  have hA0 : ∀ a : Nat, a < s.heap.size → ¬ (fun q : Nat => s.heap.size ≤ q) a := fun a h => Nat.not_le.mpr h
  obtain ⟨c0, iS0, hKn0⟩ := u_known (C := RX1) (T := TX1) (N := 5) (n := 5) hts inX1 (hts (.instantiable RX1 5) (List.mem_of_getElem? (i := 133) (by decide +kernel)))
  obtain ⟨c1, iS1, hKn1⟩ := u_known (C := RX3) (T := TX3) (N := 3) (n := 3) hts inX3 (hts (.instantiable RX3 3) (List.mem_of_getElem? (i := 186) (by decide +kernel)))
  obtain ⟨c2, iS2, hKn2⟩ := u_known (C := RX4) (T := TX4) (N := 8) (n := 8) hts inX4 (hts (.instantiable RX4 8) (List.mem_of_getElem? (i := 84) (by decide +kernel)))
  obtain ⟨c3, iS3, hKn3⟩ := u_known (C := RX5) (T := TX5) (N := 6) (n := 6) hts inX5 (hts (.instantiable RX5 6) (List.mem_of_getElem? (i := 159) (by decide +kernel)))
  obtain ⟨c4, iS4, hKn4⟩ := u_known (C := RX6) (T := TX6) (N := 8) (n := 8) hts inX6 (hts (.instantiable RX6 8) (List.mem_of_getElem? (i := 76) (by decide +kernel)))
  obtain ⟨c5, iS5, hKn5⟩ := u_known (C := RX7) (T := TX7) (N := 17) (n := 17) hts inX7 (hts (.instantiable RX7 17) (List.mem_of_getElem? (i := 726) (by decide +kernel)))
  obtain ⟨dC, dI, hKc⟩ : ∃ (dC : Nat → ClassId) (dI : Nat → Nat → Nat), ∀ (k : Nat) (q : vw_C), vwCl[k]? = some q → u_Kn s q.1 q.2.1 q.2.2 (dC k) (dI k) := by
    refine ⟨fun k => if k = 0 then c0 else if k = 1 then c1 else if k = 2 then c2 else if k = 3 then c3 else if k = 4 then c4 else c5, fun k => if k = 0 then iS0 else if k = 1 then iS1 else if k = 2 then iS2 else if k = 3 then iS3 else if k = 4 then iS4 else iS5, ?_⟩
    intro k q hq
    match k, hq with
    | 0, hq => cases hq; exact hKn0
    | 1, hq => cases hq; exact hKn1
    | 2, hq => cases hq; exact hKn2
    | 3, hq => cases hq; exact hKn3
    | 4, hq => cases hq; exact hKn4
    | 5, hq => cases hq; exact hKn5
    | k + 6, hq => simp [vwCl] at hq
  obtain ⟨cI, hI1, hI2⟩ := pv_arrk (ty := .int) (hts (.arrayClass .int) (List.mem_of_getElem? (i := 131) (by decide +kernel))) (fun C h => by cases h)
  obtain ⟨cJ, hJ1, hJ2⟩ := pv_arrk (ty := .long) (hts (.arrayClass .long) (List.mem_of_getElem? (i := 204) (by decide +kernel))) (fun C h => by cases h)
  have hao : va_AO "ProvinceCards$Sheet" s := va_AO.of (hts (.arrayOver (.object "ProvinceCards$Sheet")) (List.mem_of_getElem? (i := 185) (by decide +kernel)))
  obtain ⟨comp, cQ, kQ, f1, f0, f2, f3, f4⟩ := Cond.arrayOver_spec hao
  have hQ1 : ArrOfT s cQ (.object "ProvinceCards$Sheet") := fun N z => ⟨(fun k h => by cases h), kQ, f2, comp, f3⟩
  have hQ2 : va_RA s cQ (.object "ProvinceCards$Sheet") := ⟨kQ, comp, f2, f3, f1, f4⟩
  obtain ⟨uA, hu1, hu2⟩ := va_Tof (tm := .static "ProvinceCards$Kinds" "UNDER" "[I") (ty := .int) (N := 6) (f := fun j => .int (pv_und j)) (A := fun q : Nat => s.heap.size ≤ q) (by decide) (pv_fl_at hs (k := 5) (by decide +kernel)) (va_eqt (pv_fl_at hs (k := 6) (c := Cond.eq (.length (.static "ProvinceCards$Kinds" "UNDER" "[I")) (.int (Int32.ofNat 6))) (by decide +kernel))) (fun j hj => va_eqt (pv_fl_at hs (pv_s_un ⟨j, hj⟩))) hA0
  obtain ⟨nA, hn1, hn2⟩ := va_Tof (tm := .static "ProvinceCardsModel" "NAMES" "[I") (ty := .int) (N := 80) (f := fun j => .int (pv_nam j)) (A := fun q : Nat => s.heap.size ≤ q) (by decide) (pv_fl_at hs (k := 19) (by decide +kernel)) (va_eqt (pv_fl_at hs (k := 20) (c := Cond.eq (.length (.static "ProvinceCardsModel" "NAMES" "[I")) (.int (Int32.ofNat 80))) (by decide +kernel))) (fun j hj => va_eqt (pv_fl_at hs (pv_s_na ⟨j, hj⟩))) hA0
  have hZu := va_Zof (A := fun q : Nat => s.heap.size ≤ q) (hts (.laysStatic "ProvinceCards$Kinds" "UNDER" "[I") (List.mem_of_getElem? (i := 323) (by decide +kernel))) (hts (.initialized "ProvinceCards$Kinds") (List.mem_of_getElem? (i := 67) (by decide +kernel))) hu1 hA0
  have hZn := va_Zof (A := fun q : Nat => s.heap.size ≤ q) (hts (.laysStatic "ProvinceCardsModel" "NAMES" "[I") (List.mem_of_getElem? (i := 1052) (by decide +kernel))) (hts (.initialized "ProvinceCardsModel") (List.mem_of_getElem? (i := 65) (by decide +kernel))) hn1 hA0
  have hZc := va_Zof (A := fun q : Nat => s.heap.size ≤ q) (hts (.laysStatic "java/lang/String" "COMPACT_STRINGS" "Z") (List.mem_of_getElem? (i := 583) (by decide +kernel))) (hts (.initialized "java/lang/String") (List.mem_of_getElem? (i := 71) (by decide +kernel))) (va_eqi (z := 1) (pv_fl_at hs (k := 13) (by decide +kernel))) hA0
  have hZs := va_Zqof (A := fun q : Nat => s.heap.size ≤ q) (hts (.laysStatic "jdk/internal/util/Preconditions" "SIOOBE_FORMATTER" "Ljava/util/function/BiFunction;") (List.mem_of_getElem? (i := 599) (by decide +kernel))) (hts (.initialized "jdk/internal/util/Preconditions") (List.mem_of_getElem? (i := 73) (by decide +kernel))) (pv_fl_at hs (k := 14) (by decide +kernel)) hA0
  obtain ⟨adK, adV, hSt, hAd⟩ := vk_Sof (args := #[Value.ref b]) (N := 10) (tm := pv_tm) (len := pv_len) (byt := pv_byt) (A := fun q : Nat => s.heap.size ≤ q) (fun i _ => by have := pv_len_lt i; omega) (fun i hi => pv_fl_at hs (pv_s_ex ⟨i, hi⟩)) (fun i hi => pv_fl_at hs (pv_s_co ⟨i, hi⟩)) (fun i hi => pv_fl_at hs (pv_s_ar ⟨i, hi⟩)) (fun i hi => pv_fl_at hs (pv_s_le ⟨i, hi⟩))
    (fun i hi j hj => pv_fl_at hs (pv_s_el ⟨i, hi⟩ ⟨j, by have := pv_len_lt i; omega⟩ hj))
    (fun i j hi hj hij => by
      rcases Nat.lt_or_gt_of_ne hij with h | h
      · exact Or.inl (pv_fl_at hs (pv_s_ne ⟨j, hj⟩ ⟨i, hi⟩ h))
      · exact Or.inr (pv_fl_at hs (pv_s_ne ⟨i, hi⟩ ⟨j, hj⟩ h))) hA0
  refine ⟨((dC, dI), cI, cJ, cQ, uA, nA, adK, adV), ⟨⟨hKc, ?_⟩, hZu, hu2, hZn, hn2, ?_, hSt, ?_, hZc, hZs⟩, va_Nw.of rfl (hts (.methodLinkNest RX6 24 yX1_init RX6) (List.mem_of_getElem? (i := 134) (by decide +kernel))), va_Nw.of rfl (hts (.methodLinkNest RX6 31 yX5_init RX6) (List.mem_of_getElem? (i := 160) (by decide +kernel))), va_Nw.of rfl (hts (.methodLinkNest RX6 46 yX3_init RX6) (List.mem_of_getElem? (i := 187) (by decide +kernel))), hao⟩
  · intro k q hk
    match k, hk with
    | 0, hk => cases hk; exact ⟨hI1, hI2⟩
    | 1, hk => cases hk; exact ⟨hJ1, hJ2⟩
    | 2, hk => cases hk; exact ⟨hQ1, hQ2⟩
    | k + 3, hk => simp [pv_ty] at hk
  · intro k q hk
    match k, hk with
    | 0, hk => cases hk; exact va_Nw.of rfl (hts (.methodLinkNest RX2 21 yX6_isKind RX6) (List.mem_of_getElem? (i := 321) (by decide +kernel)))
    | 1, hk => cases hk; exact va_Nw.of rfl (hts (.methodLinkNest RX5 70 yX6_isState RX6) (List.mem_of_getElem? (i := 628) (by decide +kernel)))
    | 2, hk => cases hk; exact va_Nw.of rfl (hts (.methodLinkNest RX5 77 yX6_isMix RX6) (List.mem_of_getElem? (i := 634) (by decide +kernel)))
    | 3, hk => cases hk; exact va_Nw.of rfl (hts (.methodLinkNest RX5 83 yX6_isProvince RX6) (List.mem_of_getElem? (i := 640) (by decide +kernel)))
    | k + 4, hk => simp [pv_nest] at hk
  · intro k q hk
    match k, hk with
    | 0, hk => cases hk; exact vk_R.of (A := #[Value.ref b]) (hts (.stringRef RX2 9 "envoy") (List.mem_of_getElem? (i := 564) (by decide +kernel))) (hAd 0 (by decide))
    | 1, hk => cases hk; exact vk_R.of (A := #[Value.ref b]) (hts (.stringRef RX2 11 "miser") (List.mem_of_getElem? (i := 565) (by decide +kernel))) (hAd 1 (by decide))
    | 2, hk => cases hk; exact vk_R.of (A := #[Value.ref b]) (hts (.stringRef RX2 13 "scholar") (List.mem_of_getElem? (i := 566) (by decide +kernel))) (hAd 2 (by decide))
    | 3, hk => cases hk; exact vk_R.of (A := #[Value.ref b]) (hts (.stringRef RX2 15 "bribed") (List.mem_of_getElem? (i := 567) (by decide +kernel))) (hAd 3 (by decide))
    | 4, hk => cases hk; exact vk_R.of (A := #[Value.ref b]) (hts (.stringRef RX2 17 "fox") (List.mem_of_getElem? (i := 568) (by decide +kernel))) (hAd 4 (by decide))
    | 5, hk => cases hk; exact vk_R.of (A := #[Value.ref b]) (hts (.stringRef RX2 19 "marshal") (List.mem_of_getElem? (i := 569) (by decide +kernel))) (hAd 5 (by decide))
    | 6, hk => cases hk; exact vk_R.of (A := #[Value.ref b]) (hts (.stringRef RX5 65 "for") (List.mem_of_getElem? (i := 627) (by decide +kernel))) (hAd 6 (by decide))
    | 7, hk => cases hk; exact vk_R.of (A := #[Value.ref b]) (hts (.stringRef RX5 49 "mix") (List.mem_of_getElem? (i := 629) (by decide +kernel))) (hAd 7 (by decide))
    | 8, hk => cases hk; exact vk_R.of (A := #[Value.ref b]) (hts (.stringRef RX5 54 "province") (List.mem_of_getElem? (i := 635) (by decide +kernel))) (hAd 8 (by decide))
    | 9, hk => cases hk; exact vk_R.of (A := #[Value.ref b]) (hts (.stringRef RX5 86 "free") (List.mem_of_getElem? (i := 641) (by decide +kernel))) (hAd 9 (by decide))
    | k + 10, hk => simp [pv_strs] at hk
