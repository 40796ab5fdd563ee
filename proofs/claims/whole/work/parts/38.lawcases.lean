/-! THE LAW'S CASES: x.op(..) and m.op(..) answer alike, the loop goes on -/
theorem pv_frame {E : pv_E} {H H1 : Heap} {wa wb : va_W} (hPb : va_P E.1 vwCl wb H) (hx : ∀ (i j : Nat) (p q : Nat × va_E), wa[i]? = some p → wb[j]? = some q → p.1 ≠ q.1) (hk : ∀ q : Nat, q < H.size → ¬ va_A wa H.size q → H1[q]? = H[q]?) : va_P E.1 vwCl wb H1 := by
  intro k q hq
  have hl := (hPb k q hq).lt
  refine (hPb k q hq).kept (hk q.1 hl ?_)
  rintro (⟨k2, e, h⟩ | h)
  · exact hx k2 k (q.1, e) q h hq rfl
  · omega
section PVL
variable {p : Program} {l : Launch} {e : Env} {R : Room} {s : State} {m : MethodId} {args : Array Value} {below : List Frame} {meth : Method} {c : Code} {H : Heap} {locs : List Loc} {cells slots : Nat} {Q : State → Prop}
variable {cc : ByteArray} {pc : Nat} {ls : Array Slot} {rest st0 st1 : List Value} {E : pv_E} {A : Nat → Prop}
variable {y : MethodName} {bytes : ByteArray} {maxL nL n index : Nat} {ret : Option FieldType} {wl : List Cond} {rm : Room} {Ts : List Cond} {own C host : String} {b : Addr} {ws wc : va_W} {o : Option Value}
theorem pv_vRWk {w1 : va_W} (As : List Value) (S : CallFix p m c cc nL s args Ts own) (hE : pv_Ev E A s s.heap) (hA : ∀ q, s.heap.size ≤ q → A q) (hS : va_S A s.heap H locs) (hP : va_P E.1 vwCl ws H) (hD : va_D A ws) (hM : pv_RW l E y wl rm ws (.ref b :: As) o w1)
    (cw : CallW R s args own C index y bytes maxL ret wl rm 0 0 n) (hrv : ∃ cellB : Cell, H[b]? = some cellB ∧ cellB.vm.isStatics = false ∧ s.vm.findClass C = some cellB.cls)
    (hlen : As.length = n) (hsz : ls.size = nL) (hst : st0 = As.reverse ++ .ref b :: rest) (hst1 : o.toList ++ rest = st1) (hrm : (rest.map fun v => v.category).sum ≤ 8) (hdg : decode cc pc = .ok (.invokevirtual index, 3)) (hc : cells ≤ R.cells ∧ slots ≤ R.slots)
    (kk : ∀ (H1 : Heap) (locs1 : List Loc), va_P E.1 vwCl w1 H1 → (∀ q : Nat, q < H.size → ¬ va_A ws H.size q → H1[q]? = H[q]?) → va_S A s.heap H1 locs1 → W p l e R s m args below meth c H1 locs1 cells slots Q (F0 m (pc + 3) ls st1)) : W p l e R s m args below meth c H locs cells slots Q (F0 m pc ls st0) :=
  pv_goRW (va_runV (As := As) (rest := rest) S (hM H.size) cw ⟨pv_blind, hrv, pv_pre hE hS hA hP hD _ (pv_nd _) pv_idx⟩ rfl hlen hsz hst (lv_room hrm) hdg hc) hS (va_free hD hS hA _ pv_idx) (va_free hD hS hA _ pv_idx) (fun H1 locs1 hP1 hk hS1 => hst1 ▸ kk H1 locs1 hP1 hk hS1)
end PVL
/-- what holds all through the law: the machine, the words, the script, the environment, the two objects' addresses -/
def lw_C (p : Program) (s : State) (m : MethodId) (meth : Method) (c : Code) (b L : Nat) (xs : Nat → Int32) (E : pv_E) (a : Nat → Nat) (b0 b1 b2 b3 b4 b5 b6 b7 b8 b9 b10 : Nat) : Prop :=
  p.tables.exec = Jvm.exec ∧ c.code = cL_law ∧ c.maxLocals = 4 ∧ s.vm.findClass RL = some m.cls ∧ (∀ w ∈ wsL_law, w.before #[Value.ref b] s = true) ∧ va_X b L xs s s.heap ∧ b < s.heap.size ∧ pv_Ev E (fun q : Nat => s.heap.size ≤ q) s s.heap
  ∧ (∀ x : pv_XT, va_D (fun q : Nat => s.heap.size ≤ q) (pv_wX E a x)) ∧ (∀ mm : pv_MT, va_D (fun q : Nat => s.heap.size ≤ q) (pv_wM E b0 b1 b2 b3 b4 b5 b6 b7 b8 b9 b10 mm)) ∧ (∀ (x : pv_XT) (mm : pv_MT) (i j : Nat) (p q : Nat × va_E), (pv_wX E a x)[i]? = some p → (pv_wM E b0 b1 b2 b3 b4 b5 b6 b7 b8 b9 b10 mm)[j]? = some q → p.1 ≠ q.1)
theorem lw_i (i k : Nat) : nI i + nI k = nI (i + k) := nI_add i k
theorem lw_cmp (r : Int64) : lg_cmp r r = 0 := by unfold lg_cmp; simp
set_option maxHeartbeats 4000000 in
set_option maxRecDepth 100000 in
theorem law_c0 {p : Program} {l : Launch} {e : Env} {s : State} {m : MethodId} {below : List Frame} {meth : Method} {c : Code} {b L : Nat} {xs : Nat → Int32} {E : pv_E} {a : Nat → Nat} {b0 b1 b2 b3 b4 b5 b6 b7 b8 b9 b10 : Nat} (C0 : lw_C p s m meth c b L xs E a b0 b1 b2 b3 b4 b5 b6 b7 b8 b9 b10) (hL : L ≤ 3072) (i : Nat) (hi : i + 6 ≤ L) (Q : State → Prop) (x x2 : pv_XT) (mm m2 : pv_MT) (r : Int32) (h1 : m_X6_mix (xs (nI (i + 1)).toNatClampNeg) x = some (r, x2)) (h2 : m_X7_mix (xs (nI (i + 1)).toNatClampNeg) mm = some (r, m2))
    (K : ∀ (H : Heap) (locs : List Loc) (ls : Array Slot), va_P E.1 vwCl (pv_wX E a x2) H → va_P E.1 vwCl (pv_wM E b0 b1 b2 b3 b4 b5 b6 b7 b8 b9 b10 m2) H → va_S (fun q : Nat => s.heap.size ≤ q) s.heap H locs → lv_has ls 4 [(0, .ref b), (1, .ref (a 0)), (2, .ref b0), (3, .int (nI i))] → W p l e room_1 s m #[Value.ref b] below meth c H locs 48 871 Q (F0 m 1446 ls [])) : ∀ (H : Heap) (locs : List Loc) (ls : Array Slot), va_P E.1 vwCl (pv_wX E a x) H → va_P E.1 vwCl (pv_wM E b0 b1 b2 b3 b4 b5 b6 b7 b8 b9 b10 mm) H → va_S (fun q : Nat => s.heap.size ≤ q) s.heap H locs → lv_has ls 4 [(0, .ref b), (1, .ref (a 0)), (2, .ref b0), (3, .int (nI i))] → W p l e room_1 s m #[Value.ref b] below meth c H locs 48 871 Q (F0 m 212 ls []) := by
  obtain ⟨hx, hb, hml, hown, hts, hX, hbl, hE, hDa, hDb, hXM⟩ := C0
  have hK := hE.1
  have hA : ∀ q : Nat, s.heap.size ≤ q → (fun q : Nat => s.heap.size ≤ q) q := fun _ h => h
  have hbA : ¬ (fun q : Nat => s.heap.size ≤ q) b := Nat.not_le.mpr hbl
  intro H locs ls hPa hPb hS hl
  refine lv_aload_n (pc := 212) hx hb dL_law_212 rfl (lv_at hl 1 rfl) ?_
  refine lv_aload_n (pc := 213) hx hb dL_law_213 rfl (lv_at hl 0 rfl) ?_
  refine lv_iload_n (pc := 214) hx hb dL_law_214 rfl (lv_at hl 3 rfl) ?_
  refine lv_iconst (pc := 215) (v := nI 1) hx hb dL_law_215 (by decide) ?_
  refine lv_iadd (pc := 216) hx hb dL_law_216 ?_
  refine W.eq (g2 := F0 m 217 ls [.int (nI (i + 1)), .ref b, .ref (a 0)]) (by rw [lw_i]) ?_
  refine va_sld (pc := 217) hx hb hX hbl hbA hS (vp_in_nI (by omega) (by omega)) dL_law_217 ?_
  refine pv_vRWk (pc := 218) (rest := []) (st1 := [.int r]) (ws := pv_wX E a x) (w1 := pv_wX E a x2) [.int (xs (nI (i + 1)).toNatClampNeg)] ⟨hx, hb, hml, hown, hts⟩ hE hA hS hPa (hDa x) (c_X6_mix l E a (xs (nI (i + 1)).toNatClampNeg) x (r, x2) h1) (cwV 1 hts gL_law_X6_mix rfl rfl rfl (by decide +kernel) ⟨(Nat.le_of_ble_eq_true rfl), (Nat.le_of_ble_eq_true rfl)⟩) (va_recv hK hPa (ci := 4) (q0 := 0) rfl rfl) rfl hl.1 rfl rfl (Nat.le_of_ble_eq_true rfl) dL_law_218 ⟨(Nat.le_of_ble_eq_true rfl), (Nat.le_of_ble_eq_true rfl)⟩ (fun H1 locs hP1 hk hS => ?_)
  have hPa := hP1
  have hPb := pv_frame hPb (hXM x mm) hk
  generalize H1 = H at hPa hPb hS ⊢
  refine lv_aload_n (pc := 221) hx hb dL_law_221 rfl (lv_at hl 2 rfl) ?_
  refine lv_aload_n (pc := 222) hx hb dL_law_222 rfl (lv_at hl 0 rfl) ?_
  refine lv_iload_n (pc := 223) hx hb dL_law_223 rfl (lv_at hl 3 rfl) ?_
  refine lv_iconst (pc := 224) (v := nI 1) hx hb dL_law_224 (by decide) ?_
  refine lv_iadd (pc := 225) hx hb dL_law_225 ?_
  refine W.eq (g2 := F0 m 226 ls [.int (nI (i + 1)), .ref b, .ref b0, .int r]) (by rw [lw_i]) ?_
  refine va_sld (pc := 226) hx hb hX hbl hbA hS (vp_in_nI (by omega) (by omega)) dL_law_226 ?_
  refine pv_vRWk (pc := 227) (rest := [.int r]) (st1 := [.int r, .int r]) (ws := pv_wM E b0 b1 b2 b3 b4 b5 b6 b7 b8 b9 b10 mm) (w1 := pv_wM E b0 b1 b2 b3 b4 b5 b6 b7 b8 b9 b10 m2) [.int (xs (nI (i + 1)).toNatClampNeg)] ⟨hx, hb, hml, hown, hts⟩ hE hA hS hPb (hDb mm) (c_X7_mix l E b0 b1 b2 b3 b4 b5 b6 b7 b8 b9 b10 (xs (nI (i + 1)).toNatClampNeg) mm (r, m2) h2) (cwV 1 hts gL_law_X7_mix rfl rfl rfl (by decide +kernel) ⟨(Nat.le_of_ble_eq_true rfl), (Nat.le_of_ble_eq_true rfl)⟩) (va_recv hK hPb (ci := 5) (q0 := 0) rfl rfl) rfl hl.1 rfl rfl (Nat.le_of_ble_eq_true rfl) dL_law_227 ⟨(Nat.le_of_ble_eq_true rfl), (Nat.le_of_ble_eq_true rfl)⟩ (fun H1 locs hP1 hk hS => ?_)
  have hPb := hP1
  have hPa := pv_frame hPa (fun i j p q hp hq e => hXM x2 mm j i q p hq hp e.symm) hk
  generalize H1 = H at hPa hPb hS ⊢
  refine lv_icmp_eq (pc := 230) (tgt := 1446) hx hb dL_law_230 (by decide) (fun _ => ?_) (fun c9 => absurd rfl c9)
  exact K H locs ls hPa hPb hS hl
set_option maxHeartbeats 4000000 in
set_option maxRecDepth 100000 in
theorem law_c1 {p : Program} {l : Launch} {e : Env} {s : State} {m : MethodId} {below : List Frame} {meth : Method} {c : Code} {b L : Nat} {xs : Nat → Int32} {E : pv_E} {a : Nat → Nat} {b0 b1 b2 b3 b4 b5 b6 b7 b8 b9 b10 : Nat} (C0 : lw_C p s m meth c b L xs E a b0 b1 b2 b3 b4 b5 b6 b7 b8 b9 b10) (hL : L ≤ 3072) (i : Nat) (hi : i + 6 ≤ L) (Q : State → Prop) (x x2 : pv_XT) (mm m2 : pv_MT) (r : Int32) (h1 : m_X6_province (xs (nI (i + 1)).toNatClampNeg) (xs (nI (i + 2)).toNatClampNeg) x = some (r, x2)) (h2 : m_X7_province (xs (nI (i + 1)).toNatClampNeg) (xs (nI (i + 2)).toNatClampNeg) mm = some (r, m2))
    (K : ∀ (H : Heap) (locs : List Loc) (ls : Array Slot), va_P E.1 vwCl (pv_wX E a x2) H → va_P E.1 vwCl (pv_wM E b0 b1 b2 b3 b4 b5 b6 b7 b8 b9 b10 m2) H → va_S (fun q : Nat => s.heap.size ≤ q) s.heap H locs → lv_has ls 4 [(0, .ref b), (1, .ref (a 0)), (2, .ref b0), (3, .int (nI i))] → W p l e room_1 s m #[Value.ref b] below meth c H locs 48 871 Q (F0 m 1446 ls [])) : ∀ (H : Heap) (locs : List Loc) (ls : Array Slot), va_P E.1 vwCl (pv_wX E a x) H → va_P E.1 vwCl (pv_wM E b0 b1 b2 b3 b4 b5 b6 b7 b8 b9 b10 mm) H → va_S (fun q : Nat => s.heap.size ≤ q) s.heap H locs → lv_has ls 4 [(0, .ref b), (1, .ref (a 0)), (2, .ref b0), (3, .int (nI i))] → W p l e room_1 s m #[Value.ref b] below meth c H locs 48 871 Q (F0 m 235 ls []) := by
  obtain ⟨hx, hb, hml, hown, hts, hX, hbl, hE, hDa, hDb, hXM⟩ := C0
  have hK := hE.1
  have hA : ∀ q : Nat, s.heap.size ≤ q → (fun q : Nat => s.heap.size ≤ q) q := fun _ h => h
  have hbA : ¬ (fun q : Nat => s.heap.size ≤ q) b := Nat.not_le.mpr hbl
  intro H locs ls hPa hPb hS hl
  refine lv_aload_n (pc := 235) hx hb dL_law_235 rfl (lv_at hl 1 rfl) ?_
  refine lv_aload_n (pc := 236) hx hb dL_law_236 rfl (lv_at hl 0 rfl) ?_
  refine lv_iload_n (pc := 237) hx hb dL_law_237 rfl (lv_at hl 3 rfl) ?_
  refine lv_iconst (pc := 238) (v := nI 1) hx hb dL_law_238 (by decide) ?_
  refine lv_iadd (pc := 239) hx hb dL_law_239 ?_
  refine W.eq (g2 := F0 m 240 ls [.int (nI (i + 1)), .ref b, .ref (a 0)]) (by rw [lw_i]) ?_
  refine va_sld (pc := 240) hx hb hX hbl hbA hS (vp_in_nI (by omega) (by omega)) dL_law_240 ?_
  refine lv_aload_n (pc := 241) hx hb dL_law_241 rfl (lv_at hl 0 rfl) ?_
  refine lv_iload_n (pc := 242) hx hb dL_law_242 rfl (lv_at hl 3 rfl) ?_
  refine lv_iconst (pc := 243) (v := nI 2) hx hb dL_law_243 (by decide) ?_
  refine lv_iadd (pc := 244) hx hb dL_law_244 ?_
  refine W.eq (g2 := F0 m 245 ls [.int (nI (i + 2)), .ref b, .int (xs (nI (i + 1)).toNatClampNeg), .ref (a 0)]) (by rw [lw_i]) ?_
  refine va_sld (pc := 245) hx hb hX hbl hbA hS (vp_in_nI (by omega) (by omega)) dL_law_245 ?_
  refine pv_vRWk (pc := 246) (rest := []) (st1 := [.int r]) (ws := pv_wX E a x) (w1 := pv_wX E a x2) [.int (xs (nI (i + 1)).toNatClampNeg), .int (xs (nI (i + 2)).toNatClampNeg)] ⟨hx, hb, hml, hown, hts⟩ hE hA hS hPa (hDa x) (c_X6_province l E a (xs (nI (i + 1)).toNatClampNeg) (xs (nI (i + 2)).toNatClampNeg) x (r, x2) h1) (cwV 2 hts gL_law_X6_province rfl rfl rfl (by decide +kernel) ⟨(Nat.le_of_ble_eq_true rfl), (Nat.le_of_ble_eq_true rfl)⟩) (va_recv hK hPa (ci := 4) (q0 := 0) rfl rfl) rfl hl.1 rfl rfl (Nat.le_of_ble_eq_true rfl) dL_law_246 ⟨(Nat.le_of_ble_eq_true rfl), (Nat.le_of_ble_eq_true rfl)⟩ (fun H1 locs hP1 hk hS => ?_)
  have hPa := hP1
  have hPb := pv_frame hPb (hXM x mm) hk
  generalize H1 = H at hPa hPb hS ⊢
  refine lv_aload_n (pc := 249) hx hb dL_law_249 rfl (lv_at hl 2 rfl) ?_
  refine lv_aload_n (pc := 250) hx hb dL_law_250 rfl (lv_at hl 0 rfl) ?_
  refine lv_iload_n (pc := 251) hx hb dL_law_251 rfl (lv_at hl 3 rfl) ?_
  refine lv_iconst (pc := 252) (v := nI 1) hx hb dL_law_252 (by decide) ?_
  refine lv_iadd (pc := 253) hx hb dL_law_253 ?_
  refine W.eq (g2 := F0 m 254 ls [.int (nI (i + 1)), .ref b, .ref b0, .int r]) (by rw [lw_i]) ?_
  refine va_sld (pc := 254) hx hb hX hbl hbA hS (vp_in_nI (by omega) (by omega)) dL_law_254 ?_
  refine lv_aload_n (pc := 255) hx hb dL_law_255 rfl (lv_at hl 0 rfl) ?_
  refine lv_iload_n (pc := 256) hx hb dL_law_256 rfl (lv_at hl 3 rfl) ?_
  refine lv_iconst (pc := 257) (v := nI 2) hx hb dL_law_257 (by decide) ?_
  refine lv_iadd (pc := 258) hx hb dL_law_258 ?_
  refine W.eq (g2 := F0 m 259 ls [.int (nI (i + 2)), .ref b, .int (xs (nI (i + 1)).toNatClampNeg), .ref b0, .int r]) (by rw [lw_i]) ?_
  refine va_sld (pc := 259) hx hb hX hbl hbA hS (vp_in_nI (by omega) (by omega)) dL_law_259 ?_
  refine pv_vRWk (pc := 260) (rest := [.int r]) (st1 := [.int r, .int r]) (ws := pv_wM E b0 b1 b2 b3 b4 b5 b6 b7 b8 b9 b10 mm) (w1 := pv_wM E b0 b1 b2 b3 b4 b5 b6 b7 b8 b9 b10 m2) [.int (xs (nI (i + 1)).toNatClampNeg), .int (xs (nI (i + 2)).toNatClampNeg)] ⟨hx, hb, hml, hown, hts⟩ hE hA hS hPb (hDb mm) (c_X7_province l E b0 b1 b2 b3 b4 b5 b6 b7 b8 b9 b10 (xs (nI (i + 1)).toNatClampNeg) (xs (nI (i + 2)).toNatClampNeg) mm (r, m2) h2) (cwV 2 hts gL_law_X7_province rfl rfl rfl (by decide +kernel) ⟨(Nat.le_of_ble_eq_true rfl), (Nat.le_of_ble_eq_true rfl)⟩) (va_recv hK hPb (ci := 5) (q0 := 0) rfl rfl) rfl hl.1 rfl rfl (Nat.le_of_ble_eq_true rfl) dL_law_260 ⟨(Nat.le_of_ble_eq_true rfl), (Nat.le_of_ble_eq_true rfl)⟩ (fun H1 locs hP1 hk hS => ?_)
  have hPb := hP1
  have hPa := pv_frame hPa (fun i j p q hp hq e => hXM x2 mm j i q p hq hp e.symm) hk
  generalize H1 = H at hPa hPb hS ⊢
  refine lv_icmp_eq (pc := 263) (tgt := 1446) hx hb dL_law_263 (by decide) (fun _ => ?_) (fun c9 => absurd rfl c9)
  exact K H locs ls hPa hPb hS hl
set_option maxHeartbeats 4000000 in
set_option maxRecDepth 100000 in
theorem law_c2 {p : Program} {l : Launch} {e : Env} {s : State} {m : MethodId} {below : List Frame} {meth : Method} {c : Code} {b L : Nat} {xs : Nat → Int32} {E : pv_E} {a : Nat → Nat} {b0 b1 b2 b3 b4 b5 b6 b7 b8 b9 b10 : Nat} (C0 : lw_C p s m meth c b L xs E a b0 b1 b2 b3 b4 b5 b6 b7 b8 b9 b10) (hL : L ≤ 3072) (i : Nat) (hi : i + 6 ≤ L) (Q : State → Prop) (x x2 : pv_XT) (mm m2 : pv_MT) (r : Int32) (h1 : m_X6_whose (xs (nI (i + 1)).toNatClampNeg) x = some (r, x2)) (h2 : m_X7_whose (xs (nI (i + 1)).toNatClampNeg) mm = some (r, m2))
    (K : ∀ (H : Heap) (locs : List Loc) (ls : Array Slot), va_P E.1 vwCl (pv_wX E a x2) H → va_P E.1 vwCl (pv_wM E b0 b1 b2 b3 b4 b5 b6 b7 b8 b9 b10 m2) H → va_S (fun q : Nat => s.heap.size ≤ q) s.heap H locs → lv_has ls 4 [(0, .ref b), (1, .ref (a 0)), (2, .ref b0), (3, .int (nI i))] → W p l e room_1 s m #[Value.ref b] below meth c H locs 48 871 Q (F0 m 1446 ls [])) : ∀ (H : Heap) (locs : List Loc) (ls : Array Slot), va_P E.1 vwCl (pv_wX E a x) H → va_P E.1 vwCl (pv_wM E b0 b1 b2 b3 b4 b5 b6 b7 b8 b9 b10 mm) H → va_S (fun q : Nat => s.heap.size ≤ q) s.heap H locs → lv_has ls 4 [(0, .ref b), (1, .ref (a 0)), (2, .ref b0), (3, .int (nI i))] → W p l e room_1 s m #[Value.ref b] below meth c H locs 48 871 Q (F0 m 268 ls []) := by
  obtain ⟨hx, hb, hml, hown, hts, hX, hbl, hE, hDa, hDb, hXM⟩ := C0
  have hK := hE.1
  have hA : ∀ q : Nat, s.heap.size ≤ q → (fun q : Nat => s.heap.size ≤ q) q := fun _ h => h
  have hbA : ¬ (fun q : Nat => s.heap.size ≤ q) b := Nat.not_le.mpr hbl
  intro H locs ls hPa hPb hS hl
  refine lv_aload_n (pc := 268) hx hb dL_law_268 rfl (lv_at hl 1 rfl) ?_
  refine lv_aload_n (pc := 269) hx hb dL_law_269 rfl (lv_at hl 0 rfl) ?_
  refine lv_iload_n (pc := 270) hx hb dL_law_270 rfl (lv_at hl 3 rfl) ?_
  refine lv_iconst (pc := 271) (v := nI 1) hx hb dL_law_271 (by decide) ?_
  refine lv_iadd (pc := 272) hx hb dL_law_272 ?_
  refine W.eq (g2 := F0 m 273 ls [.int (nI (i + 1)), .ref b, .ref (a 0)]) (by rw [lw_i]) ?_
  refine va_sld (pc := 273) hx hb hX hbl hbA hS (vp_in_nI (by omega) (by omega)) dL_law_273 ?_
  refine pv_vRWk (pc := 274) (rest := []) (st1 := [.int r]) (ws := pv_wX E a x) (w1 := pv_wX E a x2) [.int (xs (nI (i + 1)).toNatClampNeg)] ⟨hx, hb, hml, hown, hts⟩ hE hA hS hPa (hDa x) (c_X6_whose l E a (xs (nI (i + 1)).toNatClampNeg) x (r, x2) h1) (cwV 1 hts gL_law_X6_whose rfl rfl rfl (by decide +kernel) ⟨(Nat.le_of_ble_eq_true rfl), (Nat.le_of_ble_eq_true rfl)⟩) (va_recv hK hPa (ci := 4) (q0 := 0) rfl rfl) rfl hl.1 rfl rfl (Nat.le_of_ble_eq_true rfl) dL_law_274 ⟨(Nat.le_of_ble_eq_true rfl), (Nat.le_of_ble_eq_true rfl)⟩ (fun H1 locs hP1 hk hS => ?_)
  have hPa := hP1
  have hPb := pv_frame hPb (hXM x mm) hk
  generalize H1 = H at hPa hPb hS ⊢
  refine lv_aload_n (pc := 277) hx hb dL_law_277 rfl (lv_at hl 2 rfl) ?_
  refine lv_aload_n (pc := 278) hx hb dL_law_278 rfl (lv_at hl 0 rfl) ?_
  refine lv_iload_n (pc := 279) hx hb dL_law_279 rfl (lv_at hl 3 rfl) ?_
  refine lv_iconst (pc := 280) (v := nI 1) hx hb dL_law_280 (by decide) ?_
  refine lv_iadd (pc := 281) hx hb dL_law_281 ?_
  refine W.eq (g2 := F0 m 282 ls [.int (nI (i + 1)), .ref b, .ref b0, .int r]) (by rw [lw_i]) ?_
  refine va_sld (pc := 282) hx hb hX hbl hbA hS (vp_in_nI (by omega) (by omega)) dL_law_282 ?_
  refine pv_vRWk (pc := 283) (rest := [.int r]) (st1 := [.int r, .int r]) (ws := pv_wM E b0 b1 b2 b3 b4 b5 b6 b7 b8 b9 b10 mm) (w1 := pv_wM E b0 b1 b2 b3 b4 b5 b6 b7 b8 b9 b10 m2) [.int (xs (nI (i + 1)).toNatClampNeg)] ⟨hx, hb, hml, hown, hts⟩ hE hA hS hPb (hDb mm) (c_X7_whose l E b0 b1 b2 b3 b4 b5 b6 b7 b8 b9 b10 (xs (nI (i + 1)).toNatClampNeg) mm (r, m2) h2) (cwV 1 hts gL_law_X7_whose rfl rfl rfl (by decide +kernel) ⟨(Nat.le_of_ble_eq_true rfl), (Nat.le_of_ble_eq_true rfl)⟩) (va_recv hK hPb (ci := 5) (q0 := 0) rfl rfl) rfl hl.1 rfl rfl (Nat.le_of_ble_eq_true rfl) dL_law_283 ⟨(Nat.le_of_ble_eq_true rfl), (Nat.le_of_ble_eq_true rfl)⟩ (fun H1 locs hP1 hk hS => ?_)
  have hPb := hP1
  have hPa := pv_frame hPa (fun i j p q hp hq e => hXM x2 mm j i q p hq hp e.symm) hk
  generalize H1 = H at hPa hPb hS ⊢
  refine lv_icmp_eq (pc := 286) (tgt := 1446) hx hb dL_law_286 (by decide) (fun _ => ?_) (fun c9 => absurd rfl c9)
  exact K H locs ls hPa hPb hS hl
set_option maxHeartbeats 4000000 in
set_option maxRecDepth 100000 in
theorem law_c3 {p : Program} {l : Launch} {e : Env} {s : State} {m : MethodId} {below : List Frame} {meth : Method} {c : Code} {b L : Nat} {xs : Nat → Int32} {E : pv_E} {a : Nat → Nat} {b0 b1 b2 b3 b4 b5 b6 b7 b8 b9 b10 : Nat} (C0 : lw_C p s m meth c b L xs E a b0 b1 b2 b3 b4 b5 b6 b7 b8 b9 b10) (hL : L ≤ 3072) (i : Nat) (hi : i + 6 ≤ L) (Q : State → Prop) (x x2 : pv_XT) (mm m2 : pv_MT) (r : Int32) (h1 : m_X6_treasury (xs (nI (i + 1)).toNatClampNeg) (xs (nI (i + 2)).toNatClampNeg) x = some (r, x2)) (h2 : m_X7_treasury (xs (nI (i + 1)).toNatClampNeg) (xs (nI (i + 2)).toNatClampNeg) mm = some (r, m2))
    (K : ∀ (H : Heap) (locs : List Loc) (ls : Array Slot), va_P E.1 vwCl (pv_wX E a x2) H → va_P E.1 vwCl (pv_wM E b0 b1 b2 b3 b4 b5 b6 b7 b8 b9 b10 m2) H → va_S (fun q : Nat => s.heap.size ≤ q) s.heap H locs → lv_has ls 4 [(0, .ref b), (1, .ref (a 0)), (2, .ref b0), (3, .int (nI i))] → W p l e room_1 s m #[Value.ref b] below meth c H locs 48 871 Q (F0 m 1446 ls [])) : ∀ (H : Heap) (locs : List Loc) (ls : Array Slot), va_P E.1 vwCl (pv_wX E a x) H → va_P E.1 vwCl (pv_wM E b0 b1 b2 b3 b4 b5 b6 b7 b8 b9 b10 mm) H → va_S (fun q : Nat => s.heap.size ≤ q) s.heap H locs → lv_has ls 4 [(0, .ref b), (1, .ref (a 0)), (2, .ref b0), (3, .int (nI i))] → W p l e room_1 s m #[Value.ref b] below meth c H locs 48 871 Q (F0 m 291 ls []) := by
  obtain ⟨hx, hb, hml, hown, hts, hX, hbl, hE, hDa, hDb, hXM⟩ := C0
  have hK := hE.1
  have hA : ∀ q : Nat, s.heap.size ≤ q → (fun q : Nat => s.heap.size ≤ q) q := fun _ h => h
  have hbA : ¬ (fun q : Nat => s.heap.size ≤ q) b := Nat.not_le.mpr hbl
  intro H locs ls hPa hPb hS hl
  refine lv_aload_n (pc := 291) hx hb dL_law_291 rfl (lv_at hl 1 rfl) ?_
  refine lv_aload_n (pc := 292) hx hb dL_law_292 rfl (lv_at hl 0 rfl) ?_
  refine lv_iload_n (pc := 293) hx hb dL_law_293 rfl (lv_at hl 3 rfl) ?_
  refine lv_iconst (pc := 294) (v := nI 1) hx hb dL_law_294 (by decide) ?_
  refine lv_iadd (pc := 295) hx hb dL_law_295 ?_
  refine W.eq (g2 := F0 m 296 ls [.int (nI (i + 1)), .ref b, .ref (a 0)]) (by rw [lw_i]) ?_
  refine va_sld (pc := 296) hx hb hX hbl hbA hS (vp_in_nI (by omega) (by omega)) dL_law_296 ?_
  refine lv_aload_n (pc := 297) hx hb dL_law_297 rfl (lv_at hl 0 rfl) ?_
  refine lv_iload_n (pc := 298) hx hb dL_law_298 rfl (lv_at hl 3 rfl) ?_
  refine lv_iconst (pc := 299) (v := nI 2) hx hb dL_law_299 (by decide) ?_
  refine lv_iadd (pc := 300) hx hb dL_law_300 ?_
  refine W.eq (g2 := F0 m 301 ls [.int (nI (i + 2)), .ref b, .int (xs (nI (i + 1)).toNatClampNeg), .ref (a 0)]) (by rw [lw_i]) ?_
  refine va_sld (pc := 301) hx hb hX hbl hbA hS (vp_in_nI (by omega) (by omega)) dL_law_301 ?_
  refine pv_vRWk (pc := 302) (rest := []) (st1 := [.int r]) (ws := pv_wX E a x) (w1 := pv_wX E a x2) [.int (xs (nI (i + 1)).toNatClampNeg), .int (xs (nI (i + 2)).toNatClampNeg)] ⟨hx, hb, hml, hown, hts⟩ hE hA hS hPa (hDa x) (c_X6_treasury l E a (xs (nI (i + 1)).toNatClampNeg) (xs (nI (i + 2)).toNatClampNeg) x (r, x2) h1) (cwV 2 hts gL_law_X6_treasury rfl rfl rfl (by decide +kernel) ⟨(Nat.le_of_ble_eq_true rfl), (Nat.le_of_ble_eq_true rfl)⟩) (va_recv hK hPa (ci := 4) (q0 := 0) rfl rfl) rfl hl.1 rfl rfl (Nat.le_of_ble_eq_true rfl) dL_law_302 ⟨(Nat.le_of_ble_eq_true rfl), (Nat.le_of_ble_eq_true rfl)⟩ (fun H1 locs hP1 hk hS => ?_)
  have hPa := hP1
  have hPb := pv_frame hPb (hXM x mm) hk
  generalize H1 = H at hPa hPb hS ⊢
  refine lv_aload_n (pc := 305) hx hb dL_law_305 rfl (lv_at hl 2 rfl) ?_
  refine lv_aload_n (pc := 306) hx hb dL_law_306 rfl (lv_at hl 0 rfl) ?_
  refine lv_iload_n (pc := 307) hx hb dL_law_307 rfl (lv_at hl 3 rfl) ?_
  refine lv_iconst (pc := 308) (v := nI 1) hx hb dL_law_308 (by decide) ?_
  refine lv_iadd (pc := 309) hx hb dL_law_309 ?_
  refine W.eq (g2 := F0 m 310 ls [.int (nI (i + 1)), .ref b, .ref b0, .int r]) (by rw [lw_i]) ?_
  refine va_sld (pc := 310) hx hb hX hbl hbA hS (vp_in_nI (by omega) (by omega)) dL_law_310 ?_
  refine lv_aload_n (pc := 311) hx hb dL_law_311 rfl (lv_at hl 0 rfl) ?_
  refine lv_iload_n (pc := 312) hx hb dL_law_312 rfl (lv_at hl 3 rfl) ?_
  refine lv_iconst (pc := 313) (v := nI 2) hx hb dL_law_313 (by decide) ?_
  refine lv_iadd (pc := 314) hx hb dL_law_314 ?_
  refine W.eq (g2 := F0 m 315 ls [.int (nI (i + 2)), .ref b, .int (xs (nI (i + 1)).toNatClampNeg), .ref b0, .int r]) (by rw [lw_i]) ?_
  refine va_sld (pc := 315) hx hb hX hbl hbA hS (vp_in_nI (by omega) (by omega)) dL_law_315 ?_
  refine pv_vRWk (pc := 316) (rest := [.int r]) (st1 := [.int r, .int r]) (ws := pv_wM E b0 b1 b2 b3 b4 b5 b6 b7 b8 b9 b10 mm) (w1 := pv_wM E b0 b1 b2 b3 b4 b5 b6 b7 b8 b9 b10 m2) [.int (xs (nI (i + 1)).toNatClampNeg), .int (xs (nI (i + 2)).toNatClampNeg)] ⟨hx, hb, hml, hown, hts⟩ hE hA hS hPb (hDb mm) (c_X7_treasury l E b0 b1 b2 b3 b4 b5 b6 b7 b8 b9 b10 (xs (nI (i + 1)).toNatClampNeg) (xs (nI (i + 2)).toNatClampNeg) mm (r, m2) h2) (cwV 2 hts gL_law_X7_treasury rfl rfl rfl (by decide +kernel) ⟨(Nat.le_of_ble_eq_true rfl), (Nat.le_of_ble_eq_true rfl)⟩) (va_recv hK hPb (ci := 5) (q0 := 0) rfl rfl) rfl hl.1 rfl rfl (Nat.le_of_ble_eq_true rfl) dL_law_316 ⟨(Nat.le_of_ble_eq_true rfl), (Nat.le_of_ble_eq_true rfl)⟩ (fun H1 locs hP1 hk hS => ?_)
  have hPb := hP1
  have hPa := pv_frame hPa (fun i j p q hp hq e => hXM x2 mm j i q p hq hp e.symm) hk
  generalize H1 = H at hPa hPb hS ⊢
  refine lv_icmp_eq (pc := 319) (tgt := 1446) hx hb dL_law_319 (by decide) (fun _ => ?_) (fun c9 => absurd rfl c9)
  exact K H locs ls hPa hPb hS hl
set_option maxHeartbeats 4000000 in
set_option maxRecDepth 100000 in
theorem law_c4 {p : Program} {l : Launch} {e : Env} {s : State} {m : MethodId} {below : List Frame} {meth : Method} {c : Code} {b L : Nat} {xs : Nat → Int32} {E : pv_E} {a : Nat → Nat} {b0 b1 b2 b3 b4 b5 b6 b7 b8 b9 b10 : Nat} (C0 : lw_C p s m meth c b L xs E a b0 b1 b2 b3 b4 b5 b6 b7 b8 b9 b10) (hL : L ≤ 3072) (i : Nat) (hi : i + 6 ≤ L) (Q : State → Prop) (x x2 : pv_XT) (mm m2 : pv_MT) (r : Int32) (h1 : m_X6_now (xs (nI (i + 1)).toNatClampNeg) x = some (r, x2)) (h2 : m_X7_now (xs (nI (i + 1)).toNatClampNeg) mm = some (r, m2))
    (K : ∀ (H : Heap) (locs : List Loc) (ls : Array Slot), va_P E.1 vwCl (pv_wX E a x2) H → va_P E.1 vwCl (pv_wM E b0 b1 b2 b3 b4 b5 b6 b7 b8 b9 b10 m2) H → va_S (fun q : Nat => s.heap.size ≤ q) s.heap H locs → lv_has ls 4 [(0, .ref b), (1, .ref (a 0)), (2, .ref b0), (3, .int (nI i))] → W p l e room_1 s m #[Value.ref b] below meth c H locs 48 871 Q (F0 m 1446 ls [])) : ∀ (H : Heap) (locs : List Loc) (ls : Array Slot), va_P E.1 vwCl (pv_wX E a x) H → va_P E.1 vwCl (pv_wM E b0 b1 b2 b3 b4 b5 b6 b7 b8 b9 b10 mm) H → va_S (fun q : Nat => s.heap.size ≤ q) s.heap H locs → lv_has ls 4 [(0, .ref b), (1, .ref (a 0)), (2, .ref b0), (3, .int (nI i))] → W p l e room_1 s m #[Value.ref b] below meth c H locs 48 871 Q (F0 m 324 ls []) := by
  obtain ⟨hx, hb, hml, hown, hts, hX, hbl, hE, hDa, hDb, hXM⟩ := C0
  have hK := hE.1
  have hA : ∀ q : Nat, s.heap.size ≤ q → (fun q : Nat => s.heap.size ≤ q) q := fun _ h => h
  have hbA : ¬ (fun q : Nat => s.heap.size ≤ q) b := Nat.not_le.mpr hbl
  intro H locs ls hPa hPb hS hl
  refine lv_aload_n (pc := 324) hx hb dL_law_324 rfl (lv_at hl 1 rfl) ?_
  refine lv_aload_n (pc := 325) hx hb dL_law_325 rfl (lv_at hl 0 rfl) ?_
  refine lv_iload_n (pc := 326) hx hb dL_law_326 rfl (lv_at hl 3 rfl) ?_
  refine lv_iconst (pc := 327) (v := nI 1) hx hb dL_law_327 (by decide) ?_
  refine lv_iadd (pc := 328) hx hb dL_law_328 ?_
  refine W.eq (g2 := F0 m 329 ls [.int (nI (i + 1)), .ref b, .ref (a 0)]) (by rw [lw_i]) ?_
  refine va_sld (pc := 329) hx hb hX hbl hbA hS (vp_in_nI (by omega) (by omega)) dL_law_329 ?_
  refine pv_vRWk (pc := 330) (rest := []) (st1 := [.int r]) (ws := pv_wX E a x) (w1 := pv_wX E a x2) [.int (xs (nI (i + 1)).toNatClampNeg)] ⟨hx, hb, hml, hown, hts⟩ hE hA hS hPa (hDa x) (c_X6_now l E a (xs (nI (i + 1)).toNatClampNeg) x (r, x2) h1) (cwV 1 hts gL_law_X6_now rfl rfl rfl (by decide +kernel) ⟨(Nat.le_of_ble_eq_true rfl), (Nat.le_of_ble_eq_true rfl)⟩) (va_recv hK hPa (ci := 4) (q0 := 0) rfl rfl) rfl hl.1 rfl rfl (Nat.le_of_ble_eq_true rfl) dL_law_330 ⟨(Nat.le_of_ble_eq_true rfl), (Nat.le_of_ble_eq_true rfl)⟩ (fun H1 locs hP1 hk hS => ?_)
  have hPa := hP1
  have hPb := pv_frame hPb (hXM x mm) hk
  generalize H1 = H at hPa hPb hS ⊢
  refine lv_aload_n (pc := 333) hx hb dL_law_333 rfl (lv_at hl 2 rfl) ?_
  refine lv_aload_n (pc := 334) hx hb dL_law_334 rfl (lv_at hl 0 rfl) ?_
  refine lv_iload_n (pc := 335) hx hb dL_law_335 rfl (lv_at hl 3 rfl) ?_
  refine lv_iconst (pc := 336) (v := nI 1) hx hb dL_law_336 (by decide) ?_
  refine lv_iadd (pc := 337) hx hb dL_law_337 ?_
  refine W.eq (g2 := F0 m 338 ls [.int (nI (i + 1)), .ref b, .ref b0, .int r]) (by rw [lw_i]) ?_
  refine va_sld (pc := 338) hx hb hX hbl hbA hS (vp_in_nI (by omega) (by omega)) dL_law_338 ?_
  refine pv_vRWk (pc := 339) (rest := [.int r]) (st1 := [.int r, .int r]) (ws := pv_wM E b0 b1 b2 b3 b4 b5 b6 b7 b8 b9 b10 mm) (w1 := pv_wM E b0 b1 b2 b3 b4 b5 b6 b7 b8 b9 b10 m2) [.int (xs (nI (i + 1)).toNatClampNeg)] ⟨hx, hb, hml, hown, hts⟩ hE hA hS hPb (hDb mm) (c_X7_now l E b0 b1 b2 b3 b4 b5 b6 b7 b8 b9 b10 (xs (nI (i + 1)).toNatClampNeg) mm (r, m2) h2) (cwV 1 hts gL_law_X7_now rfl rfl rfl (by decide +kernel) ⟨(Nat.le_of_ble_eq_true rfl), (Nat.le_of_ble_eq_true rfl)⟩) (va_recv hK hPb (ci := 5) (q0 := 0) rfl rfl) rfl hl.1 rfl rfl (Nat.le_of_ble_eq_true rfl) dL_law_339 ⟨(Nat.le_of_ble_eq_true rfl), (Nat.le_of_ble_eq_true rfl)⟩ (fun H1 locs hP1 hk hS => ?_)
  have hPb := hP1
  have hPa := pv_frame hPa (fun i j p q hp hq e => hXM x2 mm j i q p hq hp e.symm) hk
  generalize H1 = H at hPa hPb hS ⊢
  refine lv_icmp_eq (pc := 342) (tgt := 1446) hx hb dL_law_342 (by decide) (fun _ => ?_) (fun c9 => absurd rfl c9)
  exact K H locs ls hPa hPb hS hl
set_option maxHeartbeats 4000000 in
set_option maxRecDepth 100000 in
theorem law_c5 {p : Program} {l : Launch} {e : Env} {s : State} {m : MethodId} {below : List Frame} {meth : Method} {c : Code} {b L : Nat} {xs : Nat → Int32} {E : pv_E} {a : Nat → Nat} {b0 b1 b2 b3 b4 b5 b6 b7 b8 b9 b10 : Nat} (C0 : lw_C p s m meth c b L xs E a b0 b1 b2 b3 b4 b5 b6 b7 b8 b9 b10) (hL : L ≤ 3072) (i : Nat) (hi : i + 6 ≤ L) (Q : State → Prop) (x x2 : pv_XT) (mm m2 : pv_MT) (r : Int32) (h1 : m_X6_card (xs (nI (i + 1)).toNatClampNeg) (xs (nI (i + 2)).toNatClampNeg) x = some (r, x2)) (h2 : m_X7_card (xs (nI (i + 1)).toNatClampNeg) (xs (nI (i + 2)).toNatClampNeg) mm = some (r, m2))
    (K : ∀ (H : Heap) (locs : List Loc) (ls : Array Slot), va_P E.1 vwCl (pv_wX E a x2) H → va_P E.1 vwCl (pv_wM E b0 b1 b2 b3 b4 b5 b6 b7 b8 b9 b10 m2) H → va_S (fun q : Nat => s.heap.size ≤ q) s.heap H locs → lv_has ls 4 [(0, .ref b), (1, .ref (a 0)), (2, .ref b0), (3, .int (nI i))] → W p l e room_1 s m #[Value.ref b] below meth c H locs 48 871 Q (F0 m 1446 ls [])) : ∀ (H : Heap) (locs : List Loc) (ls : Array Slot), va_P E.1 vwCl (pv_wX E a x) H → va_P E.1 vwCl (pv_wM E b0 b1 b2 b3 b4 b5 b6 b7 b8 b9 b10 mm) H → va_S (fun q : Nat => s.heap.size ≤ q) s.heap H locs → lv_has ls 4 [(0, .ref b), (1, .ref (a 0)), (2, .ref b0), (3, .int (nI i))] → W p l e room_1 s m #[Value.ref b] below meth c H locs 48 871 Q (F0 m 347 ls []) := by
  obtain ⟨hx, hb, hml, hown, hts, hX, hbl, hE, hDa, hDb, hXM⟩ := C0
  have hK := hE.1
  have hA : ∀ q : Nat, s.heap.size ≤ q → (fun q : Nat => s.heap.size ≤ q) q := fun _ h => h
  have hbA : ¬ (fun q : Nat => s.heap.size ≤ q) b := Nat.not_le.mpr hbl
  intro H locs ls hPa hPb hS hl
  refine lv_aload_n (pc := 347) hx hb dL_law_347 rfl (lv_at hl 1 rfl) ?_
  refine lv_aload_n (pc := 348) hx hb dL_law_348 rfl (lv_at hl 0 rfl) ?_
  refine lv_iload_n (pc := 349) hx hb dL_law_349 rfl (lv_at hl 3 rfl) ?_
  refine lv_iconst (pc := 350) (v := nI 1) hx hb dL_law_350 (by decide) ?_
  refine lv_iadd (pc := 351) hx hb dL_law_351 ?_
  refine W.eq (g2 := F0 m 352 ls [.int (nI (i + 1)), .ref b, .ref (a 0)]) (by rw [lw_i]) ?_
  refine va_sld (pc := 352) hx hb hX hbl hbA hS (vp_in_nI (by omega) (by omega)) dL_law_352 ?_
  refine lv_aload_n (pc := 353) hx hb dL_law_353 rfl (lv_at hl 0 rfl) ?_
  refine lv_iload_n (pc := 354) hx hb dL_law_354 rfl (lv_at hl 3 rfl) ?_
  refine lv_iconst (pc := 355) (v := nI 2) hx hb dL_law_355 (by decide) ?_
  refine lv_iadd (pc := 356) hx hb dL_law_356 ?_
  refine W.eq (g2 := F0 m 357 ls [.int (nI (i + 2)), .ref b, .int (xs (nI (i + 1)).toNatClampNeg), .ref (a 0)]) (by rw [lw_i]) ?_
  refine va_sld (pc := 357) hx hb hX hbl hbA hS (vp_in_nI (by omega) (by omega)) dL_law_357 ?_
  refine pv_vRWk (pc := 358) (rest := []) (st1 := [.int r]) (ws := pv_wX E a x) (w1 := pv_wX E a x2) [.int (xs (nI (i + 1)).toNatClampNeg), .int (xs (nI (i + 2)).toNatClampNeg)] ⟨hx, hb, hml, hown, hts⟩ hE hA hS hPa (hDa x) (c_X6_card l E a (xs (nI (i + 1)).toNatClampNeg) (xs (nI (i + 2)).toNatClampNeg) x (r, x2) h1) (cwV 2 hts gL_law_X6_card rfl rfl rfl (by decide +kernel) ⟨(Nat.le_of_ble_eq_true rfl), (Nat.le_of_ble_eq_true rfl)⟩) (va_recv hK hPa (ci := 4) (q0 := 0) rfl rfl) rfl hl.1 rfl rfl (Nat.le_of_ble_eq_true rfl) dL_law_358 ⟨(Nat.le_of_ble_eq_true rfl), (Nat.le_of_ble_eq_true rfl)⟩ (fun H1 locs hP1 hk hS => ?_)
  have hPa := hP1
  have hPb := pv_frame hPb (hXM x mm) hk
  generalize H1 = H at hPa hPb hS ⊢
  refine lv_aload_n (pc := 361) hx hb dL_law_361 rfl (lv_at hl 2 rfl) ?_
  refine lv_aload_n (pc := 362) hx hb dL_law_362 rfl (lv_at hl 0 rfl) ?_
  refine lv_iload_n (pc := 363) hx hb dL_law_363 rfl (lv_at hl 3 rfl) ?_
  refine lv_iconst (pc := 364) (v := nI 1) hx hb dL_law_364 (by decide) ?_
  refine lv_iadd (pc := 365) hx hb dL_law_365 ?_
  refine W.eq (g2 := F0 m 366 ls [.int (nI (i + 1)), .ref b, .ref b0, .int r]) (by rw [lw_i]) ?_
  refine va_sld (pc := 366) hx hb hX hbl hbA hS (vp_in_nI (by omega) (by omega)) dL_law_366 ?_
  refine lv_aload_n (pc := 367) hx hb dL_law_367 rfl (lv_at hl 0 rfl) ?_
  refine lv_iload_n (pc := 368) hx hb dL_law_368 rfl (lv_at hl 3 rfl) ?_
  refine lv_iconst (pc := 369) (v := nI 2) hx hb dL_law_369 (by decide) ?_
  refine lv_iadd (pc := 370) hx hb dL_law_370 ?_
  refine W.eq (g2 := F0 m 371 ls [.int (nI (i + 2)), .ref b, .int (xs (nI (i + 1)).toNatClampNeg), .ref b0, .int r]) (by rw [lw_i]) ?_
  refine va_sld (pc := 371) hx hb hX hbl hbA hS (vp_in_nI (by omega) (by omega)) dL_law_371 ?_
  refine pv_vRWk (pc := 372) (rest := [.int r]) (st1 := [.int r, .int r]) (ws := pv_wM E b0 b1 b2 b3 b4 b5 b6 b7 b8 b9 b10 mm) (w1 := pv_wM E b0 b1 b2 b3 b4 b5 b6 b7 b8 b9 b10 m2) [.int (xs (nI (i + 1)).toNatClampNeg), .int (xs (nI (i + 2)).toNatClampNeg)] ⟨hx, hb, hml, hown, hts⟩ hE hA hS hPb (hDb mm) (c_X7_card l E b0 b1 b2 b3 b4 b5 b6 b7 b8 b9 b10 (xs (nI (i + 1)).toNatClampNeg) (xs (nI (i + 2)).toNatClampNeg) mm (r, m2) h2) (cwV 2 hts gL_law_X7_card rfl rfl rfl (by decide +kernel) ⟨(Nat.le_of_ble_eq_true rfl), (Nat.le_of_ble_eq_true rfl)⟩) (va_recv hK hPb (ci := 5) (q0 := 0) rfl rfl) rfl hl.1 rfl rfl (Nat.le_of_ble_eq_true rfl) dL_law_372 ⟨(Nat.le_of_ble_eq_true rfl), (Nat.le_of_ble_eq_true rfl)⟩ (fun H1 locs hP1 hk hS => ?_)
  have hPb := hP1
  have hPa := pv_frame hPa (fun i j p q hp hq e => hXM x2 mm j i q p hq hp e.symm) hk
  generalize H1 = H at hPa hPb hS ⊢
  refine lv_icmp_eq (pc := 375) (tgt := 1446) hx hb dL_law_375 (by decide) (fun _ => ?_) (fun c9 => absurd rfl c9)
  exact K H locs ls hPa hPb hS hl
set_option maxHeartbeats 4000000 in
set_option maxRecDepth 100000 in
theorem law_c6 {p : Program} {l : Launch} {e : Env} {s : State} {m : MethodId} {below : List Frame} {meth : Method} {c : Code} {b L : Nat} {xs : Nat → Int32} {E : pv_E} {a : Nat → Nat} {b0 b1 b2 b3 b4 b5 b6 b7 b8 b9 b10 : Nat} (C0 : lw_C p s m meth c b L xs E a b0 b1 b2 b3 b4 b5 b6 b7 b8 b9 b10) (hL : L ≤ 3072) (i : Nat) (hi : i + 6 ≤ L) (Q : State → Prop) (x x2 : pv_XT) (mm m2 : pv_MT) (r : Int32) (h1 : m_X6_envoy (xs (nI (i + 1)).toNatClampNeg) x = some (r, x2)) (h2 : m_X7_envoy (xs (nI (i + 1)).toNatClampNeg) mm = some (r, m2))
    (K : ∀ (H : Heap) (locs : List Loc) (ls : Array Slot), va_P E.1 vwCl (pv_wX E a x2) H → va_P E.1 vwCl (pv_wM E b0 b1 b2 b3 b4 b5 b6 b7 b8 b9 b10 m2) H → va_S (fun q : Nat => s.heap.size ≤ q) s.heap H locs → lv_has ls 4 [(0, .ref b), (1, .ref (a 0)), (2, .ref b0), (3, .int (nI i))] → W p l e room_1 s m #[Value.ref b] below meth c H locs 48 871 Q (F0 m 1446 ls [])) : ∀ (H : Heap) (locs : List Loc) (ls : Array Slot), va_P E.1 vwCl (pv_wX E a x) H → va_P E.1 vwCl (pv_wM E b0 b1 b2 b3 b4 b5 b6 b7 b8 b9 b10 mm) H → va_S (fun q : Nat => s.heap.size ≤ q) s.heap H locs → lv_has ls 4 [(0, .ref b), (1, .ref (a 0)), (2, .ref b0), (3, .int (nI i))] → W p l e room_1 s m #[Value.ref b] below meth c H locs 48 871 Q (F0 m 380 ls []) := by
  obtain ⟨hx, hb, hml, hown, hts, hX, hbl, hE, hDa, hDb, hXM⟩ := C0
  have hK := hE.1
  have hA : ∀ q : Nat, s.heap.size ≤ q → (fun q : Nat => s.heap.size ≤ q) q := fun _ h => h
  have hbA : ¬ (fun q : Nat => s.heap.size ≤ q) b := Nat.not_le.mpr hbl
  intro H locs ls hPa hPb hS hl
  refine lv_aload_n (pc := 380) hx hb dL_law_380 rfl (lv_at hl 1 rfl) ?_
  refine lv_aload_n (pc := 381) hx hb dL_law_381 rfl (lv_at hl 0 rfl) ?_
  refine lv_iload_n (pc := 382) hx hb dL_law_382 rfl (lv_at hl 3 rfl) ?_
  refine lv_iconst (pc := 383) (v := nI 1) hx hb dL_law_383 (by decide) ?_
  refine lv_iadd (pc := 384) hx hb dL_law_384 ?_
  refine W.eq (g2 := F0 m 385 ls [.int (nI (i + 1)), .ref b, .ref (a 0)]) (by rw [lw_i]) ?_
  refine va_sld (pc := 385) hx hb hX hbl hbA hS (vp_in_nI (by omega) (by omega)) dL_law_385 ?_
  refine pv_vRWk (pc := 386) (rest := []) (st1 := [.int r]) (ws := pv_wX E a x) (w1 := pv_wX E a x2) [.int (xs (nI (i + 1)).toNatClampNeg)] ⟨hx, hb, hml, hown, hts⟩ hE hA hS hPa (hDa x) (c_X6_envoy l E a (xs (nI (i + 1)).toNatClampNeg) x (r, x2) h1) (cwV 1 hts gL_law_X6_envoy rfl rfl rfl (by decide +kernel) ⟨(Nat.le_of_ble_eq_true rfl), (Nat.le_of_ble_eq_true rfl)⟩) (va_recv hK hPa (ci := 4) (q0 := 0) rfl rfl) rfl hl.1 rfl rfl (Nat.le_of_ble_eq_true rfl) dL_law_386 ⟨(Nat.le_of_ble_eq_true rfl), (Nat.le_of_ble_eq_true rfl)⟩ (fun H1 locs hP1 hk hS => ?_)
  have hPa := hP1
  have hPb := pv_frame hPb (hXM x mm) hk
  generalize H1 = H at hPa hPb hS ⊢
  refine lv_aload_n (pc := 389) hx hb dL_law_389 rfl (lv_at hl 2 rfl) ?_
  refine lv_aload_n (pc := 390) hx hb dL_law_390 rfl (lv_at hl 0 rfl) ?_
  refine lv_iload_n (pc := 391) hx hb dL_law_391 rfl (lv_at hl 3 rfl) ?_
  refine lv_iconst (pc := 392) (v := nI 1) hx hb dL_law_392 (by decide) ?_
  refine lv_iadd (pc := 393) hx hb dL_law_393 ?_
  refine W.eq (g2 := F0 m 394 ls [.int (nI (i + 1)), .ref b, .ref b0, .int r]) (by rw [lw_i]) ?_
  refine va_sld (pc := 394) hx hb hX hbl hbA hS (vp_in_nI (by omega) (by omega)) dL_law_394 ?_
  refine pv_vRWk (pc := 395) (rest := [.int r]) (st1 := [.int r, .int r]) (ws := pv_wM E b0 b1 b2 b3 b4 b5 b6 b7 b8 b9 b10 mm) (w1 := pv_wM E b0 b1 b2 b3 b4 b5 b6 b7 b8 b9 b10 m2) [.int (xs (nI (i + 1)).toNatClampNeg)] ⟨hx, hb, hml, hown, hts⟩ hE hA hS hPb (hDb mm) (c_X7_envoy l E b0 b1 b2 b3 b4 b5 b6 b7 b8 b9 b10 (xs (nI (i + 1)).toNatClampNeg) mm (r, m2) h2) (cwV 1 hts gL_law_X7_envoy rfl rfl rfl (by decide +kernel) ⟨(Nat.le_of_ble_eq_true rfl), (Nat.le_of_ble_eq_true rfl)⟩) (va_recv hK hPb (ci := 5) (q0 := 0) rfl rfl) rfl hl.1 rfl rfl (Nat.le_of_ble_eq_true rfl) dL_law_395 ⟨(Nat.le_of_ble_eq_true rfl), (Nat.le_of_ble_eq_true rfl)⟩ (fun H1 locs hP1 hk hS => ?_)
  have hPb := hP1
  have hPa := pv_frame hPa (fun i j p q hp hq e => hXM x2 mm j i q p hq hp e.symm) hk
  generalize H1 = H at hPa hPb hS ⊢
  refine lv_icmp_eq (pc := 398) (tgt := 1446) hx hb dL_law_398 (by decide) (fun _ => ?_) (fun c9 => absurd rfl c9)
  exact K H locs ls hPa hPb hS hl
set_option maxHeartbeats 4000000 in
set_option maxRecDepth 100000 in
theorem law_c7 {p : Program} {l : Launch} {e : Env} {s : State} {m : MethodId} {below : List Frame} {meth : Method} {c : Code} {b L : Nat} {xs : Nat → Int32} {E : pv_E} {a : Nat → Nat} {b0 b1 b2 b3 b4 b5 b6 b7 b8 b9 b10 : Nat} (C0 : lw_C p s m meth c b L xs E a b0 b1 b2 b3 b4 b5 b6 b7 b8 b9 b10) (hL : L ≤ 3072) (i : Nat) (hi : i + 6 ≤ L) (Q : State → Prop) (x x2 : pv_XT) (mm m2 : pv_MT) (r : Int32) (h1 : m_X6_of (xs (nI (i + 1)).toNatClampNeg) (xs (nI (i + 2)).toNatClampNeg) x = some (r, x2)) (h2 : m_X7_of (xs (nI (i + 1)).toNatClampNeg) (xs (nI (i + 2)).toNatClampNeg) mm = some (r, m2))
    (K : ∀ (H : Heap) (locs : List Loc) (ls : Array Slot), va_P E.1 vwCl (pv_wX E a x2) H → va_P E.1 vwCl (pv_wM E b0 b1 b2 b3 b4 b5 b6 b7 b8 b9 b10 m2) H → va_S (fun q : Nat => s.heap.size ≤ q) s.heap H locs → lv_has ls 4 [(0, .ref b), (1, .ref (a 0)), (2, .ref b0), (3, .int (nI i))] → W p l e room_1 s m #[Value.ref b] below meth c H locs 48 871 Q (F0 m 1446 ls [])) : ∀ (H : Heap) (locs : List Loc) (ls : Array Slot), va_P E.1 vwCl (pv_wX E a x) H → va_P E.1 vwCl (pv_wM E b0 b1 b2 b3 b4 b5 b6 b7 b8 b9 b10 mm) H → va_S (fun q : Nat => s.heap.size ≤ q) s.heap H locs → lv_has ls 4 [(0, .ref b), (1, .ref (a 0)), (2, .ref b0), (3, .int (nI i))] → W p l e room_1 s m #[Value.ref b] below meth c H locs 48 871 Q (F0 m 403 ls []) := by
  obtain ⟨hx, hb, hml, hown, hts, hX, hbl, hE, hDa, hDb, hXM⟩ := C0
  have hK := hE.1
  have hA : ∀ q : Nat, s.heap.size ≤ q → (fun q : Nat => s.heap.size ≤ q) q := fun _ h => h
  have hbA : ¬ (fun q : Nat => s.heap.size ≤ q) b := Nat.not_le.mpr hbl
  intro H locs ls hPa hPb hS hl
  refine lv_aload_n (pc := 403) hx hb dL_law_403 rfl (lv_at hl 1 rfl) ?_
  refine lv_aload_n (pc := 404) hx hb dL_law_404 rfl (lv_at hl 0 rfl) ?_
  refine lv_iload_n (pc := 405) hx hb dL_law_405 rfl (lv_at hl 3 rfl) ?_
  refine lv_iconst (pc := 406) (v := nI 1) hx hb dL_law_406 (by decide) ?_
  refine lv_iadd (pc := 407) hx hb dL_law_407 ?_
  refine W.eq (g2 := F0 m 408 ls [.int (nI (i + 1)), .ref b, .ref (a 0)]) (by rw [lw_i]) ?_
  refine va_sld (pc := 408) hx hb hX hbl hbA hS (vp_in_nI (by omega) (by omega)) dL_law_408 ?_
  refine lv_aload_n (pc := 409) hx hb dL_law_409 rfl (lv_at hl 0 rfl) ?_
  refine lv_iload_n (pc := 410) hx hb dL_law_410 rfl (lv_at hl 3 rfl) ?_
  refine lv_iconst (pc := 411) (v := nI 2) hx hb dL_law_411 (by decide) ?_
  refine lv_iadd (pc := 412) hx hb dL_law_412 ?_
  refine W.eq (g2 := F0 m 413 ls [.int (nI (i + 2)), .ref b, .int (xs (nI (i + 1)).toNatClampNeg), .ref (a 0)]) (by rw [lw_i]) ?_
  refine va_sld (pc := 413) hx hb hX hbl hbA hS (vp_in_nI (by omega) (by omega)) dL_law_413 ?_
  refine pv_vRWk (pc := 414) (rest := []) (st1 := [.int r]) (ws := pv_wX E a x) (w1 := pv_wX E a x2) [.int (xs (nI (i + 1)).toNatClampNeg), .int (xs (nI (i + 2)).toNatClampNeg)] ⟨hx, hb, hml, hown, hts⟩ hE hA hS hPa (hDa x) (c_X6_of l E a (xs (nI (i + 1)).toNatClampNeg) (xs (nI (i + 2)).toNatClampNeg) x (r, x2) h1) (cwV 2 hts gL_law_X6_of rfl rfl rfl (by decide +kernel) ⟨(Nat.le_of_ble_eq_true rfl), (Nat.le_of_ble_eq_true rfl)⟩) (va_recv hK hPa (ci := 4) (q0 := 0) rfl rfl) rfl hl.1 rfl rfl (Nat.le_of_ble_eq_true rfl) dL_law_414 ⟨(Nat.le_of_ble_eq_true rfl), (Nat.le_of_ble_eq_true rfl)⟩ (fun H1 locs hP1 hk hS => ?_)
  have hPa := hP1
  have hPb := pv_frame hPb (hXM x mm) hk
  generalize H1 = H at hPa hPb hS ⊢
  refine lv_aload_n (pc := 417) hx hb dL_law_417 rfl (lv_at hl 2 rfl) ?_
  refine lv_aload_n (pc := 418) hx hb dL_law_418 rfl (lv_at hl 0 rfl) ?_
  refine lv_iload_n (pc := 419) hx hb dL_law_419 rfl (lv_at hl 3 rfl) ?_
  refine lv_iconst (pc := 420) (v := nI 1) hx hb dL_law_420 (by decide) ?_
  refine lv_iadd (pc := 421) hx hb dL_law_421 ?_
  refine W.eq (g2 := F0 m 422 ls [.int (nI (i + 1)), .ref b, .ref b0, .int r]) (by rw [lw_i]) ?_
  refine va_sld (pc := 422) hx hb hX hbl hbA hS (vp_in_nI (by omega) (by omega)) dL_law_422 ?_
  refine lv_aload_n (pc := 423) hx hb dL_law_423 rfl (lv_at hl 0 rfl) ?_
  refine lv_iload_n (pc := 424) hx hb dL_law_424 rfl (lv_at hl 3 rfl) ?_
  refine lv_iconst (pc := 425) (v := nI 2) hx hb dL_law_425 (by decide) ?_
  refine lv_iadd (pc := 426) hx hb dL_law_426 ?_
  refine W.eq (g2 := F0 m 427 ls [.int (nI (i + 2)), .ref b, .int (xs (nI (i + 1)).toNatClampNeg), .ref b0, .int r]) (by rw [lw_i]) ?_
  refine va_sld (pc := 427) hx hb hX hbl hbA hS (vp_in_nI (by omega) (by omega)) dL_law_427 ?_
  refine pv_vRWk (pc := 428) (rest := [.int r]) (st1 := [.int r, .int r]) (ws := pv_wM E b0 b1 b2 b3 b4 b5 b6 b7 b8 b9 b10 mm) (w1 := pv_wM E b0 b1 b2 b3 b4 b5 b6 b7 b8 b9 b10 m2) [.int (xs (nI (i + 1)).toNatClampNeg), .int (xs (nI (i + 2)).toNatClampNeg)] ⟨hx, hb, hml, hown, hts⟩ hE hA hS hPb (hDb mm) (c_X7_of l E b0 b1 b2 b3 b4 b5 b6 b7 b8 b9 b10 (xs (nI (i + 1)).toNatClampNeg) (xs (nI (i + 2)).toNatClampNeg) mm (r, m2) h2) (cwV 2 hts gL_law_X7_of rfl rfl rfl (by decide +kernel) ⟨(Nat.le_of_ble_eq_true rfl), (Nat.le_of_ble_eq_true rfl)⟩) (va_recv hK hPb (ci := 5) (q0 := 0) rfl rfl) rfl hl.1 rfl rfl (Nat.le_of_ble_eq_true rfl) dL_law_428 ⟨(Nat.le_of_ble_eq_true rfl), (Nat.le_of_ble_eq_true rfl)⟩ (fun H1 locs hP1 hk hS => ?_)
  have hPb := hP1
  have hPa := pv_frame hPa (fun i j p q hp hq e => hXM x2 mm j i q p hq hp e.symm) hk
  generalize H1 = H at hPa hPb hS ⊢
  refine lv_icmp_eq (pc := 431) (tgt := 1446) hx hb dL_law_431 (by decide) (fun _ => ?_) (fun c9 => absurd rfl c9)
  exact K H locs ls hPa hPb hS hl
set_option maxHeartbeats 4000000 in
set_option maxRecDepth 100000 in
theorem law_c8 {p : Program} {l : Launch} {e : Env} {s : State} {m : MethodId} {below : List Frame} {meth : Method} {c : Code} {b L : Nat} {xs : Nat → Int32} {E : pv_E} {a : Nat → Nat} {b0 b1 b2 b3 b4 b5 b6 b7 b8 b9 b10 : Nat} (C0 : lw_C p s m meth c b L xs E a b0 b1 b2 b3 b4 b5 b6 b7 b8 b9 b10) (hL : L ≤ 3072) (i : Nat) (hi : i + 6 ≤ L) (Q : State → Prop) (x x2 : pv_XT) (mm m2 : pv_MT) (r : Int32) (h1 : m_X6_turn (xs (nI (i + 1)).toNatClampNeg) (xs (nI (i + 2)).toNatClampNeg) x = some (r, x2)) (h2 : m_X7_turn (xs (nI (i + 1)).toNatClampNeg) (xs (nI (i + 2)).toNatClampNeg) mm = some (r, m2))
    (K : ∀ (H : Heap) (locs : List Loc) (ls : Array Slot), va_P E.1 vwCl (pv_wX E a x2) H → va_P E.1 vwCl (pv_wM E b0 b1 b2 b3 b4 b5 b6 b7 b8 b9 b10 m2) H → va_S (fun q : Nat => s.heap.size ≤ q) s.heap H locs → lv_has ls 4 [(0, .ref b), (1, .ref (a 0)), (2, .ref b0), (3, .int (nI i))] → W p l e room_1 s m #[Value.ref b] below meth c H locs 48 871 Q (F0 m 1446 ls [])) : ∀ (H : Heap) (locs : List Loc) (ls : Array Slot), va_P E.1 vwCl (pv_wX E a x) H → va_P E.1 vwCl (pv_wM E b0 b1 b2 b3 b4 b5 b6 b7 b8 b9 b10 mm) H → va_S (fun q : Nat => s.heap.size ≤ q) s.heap H locs → lv_has ls 4 [(0, .ref b), (1, .ref (a 0)), (2, .ref b0), (3, .int (nI i))] → W p l e room_1 s m #[Value.ref b] below meth c H locs 48 871 Q (F0 m 436 ls []) := by
  obtain ⟨hx, hb, hml, hown, hts, hX, hbl, hE, hDa, hDb, hXM⟩ := C0
  have hK := hE.1
  have hA : ∀ q : Nat, s.heap.size ≤ q → (fun q : Nat => s.heap.size ≤ q) q := fun _ h => h
  have hbA : ¬ (fun q : Nat => s.heap.size ≤ q) b := Nat.not_le.mpr hbl
  intro H locs ls hPa hPb hS hl
  refine lv_aload_n (pc := 436) hx hb dL_law_436 rfl (lv_at hl 1 rfl) ?_
  refine lv_aload_n (pc := 437) hx hb dL_law_437 rfl (lv_at hl 0 rfl) ?_
  refine lv_iload_n (pc := 438) hx hb dL_law_438 rfl (lv_at hl 3 rfl) ?_
  refine lv_iconst (pc := 439) (v := nI 1) hx hb dL_law_439 (by decide) ?_
  refine lv_iadd (pc := 440) hx hb dL_law_440 ?_
  refine W.eq (g2 := F0 m 441 ls [.int (nI (i + 1)), .ref b, .ref (a 0)]) (by rw [lw_i]) ?_
  refine va_sld (pc := 441) hx hb hX hbl hbA hS (vp_in_nI (by omega) (by omega)) dL_law_441 ?_
  refine lv_aload_n (pc := 442) hx hb dL_law_442 rfl (lv_at hl 0 rfl) ?_
  refine lv_iload_n (pc := 443) hx hb dL_law_443 rfl (lv_at hl 3 rfl) ?_
  refine lv_iconst (pc := 444) (v := nI 2) hx hb dL_law_444 (by decide) ?_
  refine lv_iadd (pc := 445) hx hb dL_law_445 ?_
  refine W.eq (g2 := F0 m 446 ls [.int (nI (i + 2)), .ref b, .int (xs (nI (i + 1)).toNatClampNeg), .ref (a 0)]) (by rw [lw_i]) ?_
  refine va_sld (pc := 446) hx hb hX hbl hbA hS (vp_in_nI (by omega) (by omega)) dL_law_446 ?_
  refine pv_vRWk (pc := 447) (rest := []) (st1 := [.int r]) (ws := pv_wX E a x) (w1 := pv_wX E a x2) [.int (xs (nI (i + 1)).toNatClampNeg), .int (xs (nI (i + 2)).toNatClampNeg)] ⟨hx, hb, hml, hown, hts⟩ hE hA hS hPa (hDa x) (c_X6_turn l E a (xs (nI (i + 1)).toNatClampNeg) (xs (nI (i + 2)).toNatClampNeg) x (r, x2) h1) (cwV 2 hts gL_law_X6_turn rfl rfl rfl (by decide +kernel) ⟨(Nat.le_of_ble_eq_true rfl), (Nat.le_of_ble_eq_true rfl)⟩) (va_recv hK hPa (ci := 4) (q0 := 0) rfl rfl) rfl hl.1 rfl rfl (Nat.le_of_ble_eq_true rfl) dL_law_447 ⟨(Nat.le_of_ble_eq_true rfl), (Nat.le_of_ble_eq_true rfl)⟩ (fun H1 locs hP1 hk hS => ?_)
  have hPa := hP1
  have hPb := pv_frame hPb (hXM x mm) hk
  generalize H1 = H at hPa hPb hS ⊢
  refine lv_aload_n (pc := 450) hx hb dL_law_450 rfl (lv_at hl 2 rfl) ?_
  refine lv_aload_n (pc := 451) hx hb dL_law_451 rfl (lv_at hl 0 rfl) ?_
  refine lv_iload_n (pc := 452) hx hb dL_law_452 rfl (lv_at hl 3 rfl) ?_
  refine lv_iconst (pc := 453) (v := nI 1) hx hb dL_law_453 (by decide) ?_
  refine lv_iadd (pc := 454) hx hb dL_law_454 ?_
  refine W.eq (g2 := F0 m 455 ls [.int (nI (i + 1)), .ref b, .ref b0, .int r]) (by rw [lw_i]) ?_
  refine va_sld (pc := 455) hx hb hX hbl hbA hS (vp_in_nI (by omega) (by omega)) dL_law_455 ?_
  refine lv_aload_n (pc := 456) hx hb dL_law_456 rfl (lv_at hl 0 rfl) ?_
  refine lv_iload_n (pc := 457) hx hb dL_law_457 rfl (lv_at hl 3 rfl) ?_
  refine lv_iconst (pc := 458) (v := nI 2) hx hb dL_law_458 (by decide) ?_
  refine lv_iadd (pc := 459) hx hb dL_law_459 ?_
  refine W.eq (g2 := F0 m 460 ls [.int (nI (i + 2)), .ref b, .int (xs (nI (i + 1)).toNatClampNeg), .ref b0, .int r]) (by rw [lw_i]) ?_
  refine va_sld (pc := 460) hx hb hX hbl hbA hS (vp_in_nI (by omega) (by omega)) dL_law_460 ?_
  refine pv_vRWk (pc := 461) (rest := [.int r]) (st1 := [.int r, .int r]) (ws := pv_wM E b0 b1 b2 b3 b4 b5 b6 b7 b8 b9 b10 mm) (w1 := pv_wM E b0 b1 b2 b3 b4 b5 b6 b7 b8 b9 b10 m2) [.int (xs (nI (i + 1)).toNatClampNeg), .int (xs (nI (i + 2)).toNatClampNeg)] ⟨hx, hb, hml, hown, hts⟩ hE hA hS hPb (hDb mm) (c_X7_turn l E b0 b1 b2 b3 b4 b5 b6 b7 b8 b9 b10 (xs (nI (i + 1)).toNatClampNeg) (xs (nI (i + 2)).toNatClampNeg) mm (r, m2) h2) (cwV 2 hts gL_law_X7_turn rfl rfl rfl (by decide +kernel) ⟨(Nat.le_of_ble_eq_true rfl), (Nat.le_of_ble_eq_true rfl)⟩) (va_recv hK hPb (ci := 5) (q0 := 0) rfl rfl) rfl hl.1 rfl rfl (Nat.le_of_ble_eq_true rfl) dL_law_461 ⟨(Nat.le_of_ble_eq_true rfl), (Nat.le_of_ble_eq_true rfl)⟩ (fun H1 locs hP1 hk hS => ?_)
  have hPb := hP1
  have hPa := pv_frame hPa (fun i j p q hp hq e => hXM x2 mm j i q p hq hp e.symm) hk
  generalize H1 = H at hPa hPb hS ⊢
  refine lv_icmp_eq (pc := 464) (tgt := 1446) hx hb dL_law_464 (by decide) (fun _ => ?_) (fun c9 => absurd rfl c9)
  exact K H locs ls hPa hPb hS hl
set_option maxHeartbeats 4000000 in
set_option maxRecDepth 100000 in
theorem law_c9 {p : Program} {l : Launch} {e : Env} {s : State} {m : MethodId} {below : List Frame} {meth : Method} {c : Code} {b L : Nat} {xs : Nat → Int32} {E : pv_E} {a : Nat → Nat} {b0 b1 b2 b3 b4 b5 b6 b7 b8 b9 b10 : Nat} (C0 : lw_C p s m meth c b L xs E a b0 b1 b2 b3 b4 b5 b6 b7 b8 b9 b10) (hL : L ≤ 3072) (i : Nat) (hi : i + 6 ≤ L) (Q : State → Prop) (x x2 : pv_XT) (mm m2 : pv_MT) (r : Int32) (h1 : m_X6_as (xs (nI (i + 1)).toNatClampNeg) (xs (nI (i + 2)).toNatClampNeg) x = some (r, x2)) (h2 : m_X7_as (xs (nI (i + 1)).toNatClampNeg) (xs (nI (i + 2)).toNatClampNeg) mm = some (r, m2))
    (K : ∀ (H : Heap) (locs : List Loc) (ls : Array Slot), va_P E.1 vwCl (pv_wX E a x2) H → va_P E.1 vwCl (pv_wM E b0 b1 b2 b3 b4 b5 b6 b7 b8 b9 b10 m2) H → va_S (fun q : Nat => s.heap.size ≤ q) s.heap H locs → lv_has ls 4 [(0, .ref b), (1, .ref (a 0)), (2, .ref b0), (3, .int (nI i))] → W p l e room_1 s m #[Value.ref b] below meth c H locs 48 871 Q (F0 m 1446 ls [])) : ∀ (H : Heap) (locs : List Loc) (ls : Array Slot), va_P E.1 vwCl (pv_wX E a x) H → va_P E.1 vwCl (pv_wM E b0 b1 b2 b3 b4 b5 b6 b7 b8 b9 b10 mm) H → va_S (fun q : Nat => s.heap.size ≤ q) s.heap H locs → lv_has ls 4 [(0, .ref b), (1, .ref (a 0)), (2, .ref b0), (3, .int (nI i))] → W p l e room_1 s m #[Value.ref b] below meth c H locs 48 871 Q (F0 m 469 ls []) := by
  obtain ⟨hx, hb, hml, hown, hts, hX, hbl, hE, hDa, hDb, hXM⟩ := C0
  have hK := hE.1
  have hA : ∀ q : Nat, s.heap.size ≤ q → (fun q : Nat => s.heap.size ≤ q) q := fun _ h => h
  have hbA : ¬ (fun q : Nat => s.heap.size ≤ q) b := Nat.not_le.mpr hbl
  intro H locs ls hPa hPb hS hl
  refine lv_aload_n (pc := 469) hx hb dL_law_469 rfl (lv_at hl 1 rfl) ?_
  refine lv_aload_n (pc := 470) hx hb dL_law_470 rfl (lv_at hl 0 rfl) ?_
  refine lv_iload_n (pc := 471) hx hb dL_law_471 rfl (lv_at hl 3 rfl) ?_
  refine lv_iconst (pc := 472) (v := nI 1) hx hb dL_law_472 (by decide) ?_
  refine lv_iadd (pc := 473) hx hb dL_law_473 ?_
  refine W.eq (g2 := F0 m 474 ls [.int (nI (i + 1)), .ref b, .ref (a 0)]) (by rw [lw_i]) ?_
  refine va_sld (pc := 474) hx hb hX hbl hbA hS (vp_in_nI (by omega) (by omega)) dL_law_474 ?_
  refine lv_aload_n (pc := 475) hx hb dL_law_475 rfl (lv_at hl 0 rfl) ?_
  refine lv_iload_n (pc := 476) hx hb dL_law_476 rfl (lv_at hl 3 rfl) ?_
  refine lv_iconst (pc := 477) (v := nI 2) hx hb dL_law_477 (by decide) ?_
  refine lv_iadd (pc := 478) hx hb dL_law_478 ?_
  refine W.eq (g2 := F0 m 479 ls [.int (nI (i + 2)), .ref b, .int (xs (nI (i + 1)).toNatClampNeg), .ref (a 0)]) (by rw [lw_i]) ?_
  refine va_sld (pc := 479) hx hb hX hbl hbA hS (vp_in_nI (by omega) (by omega)) dL_law_479 ?_
  refine pv_vRWk (pc := 480) (rest := []) (st1 := [.int r]) (ws := pv_wX E a x) (w1 := pv_wX E a x2) [.int (xs (nI (i + 1)).toNatClampNeg), .int (xs (nI (i + 2)).toNatClampNeg)] ⟨hx, hb, hml, hown, hts⟩ hE hA hS hPa (hDa x) (c_X6_as l E a (xs (nI (i + 1)).toNatClampNeg) (xs (nI (i + 2)).toNatClampNeg) x (r, x2) h1) (cwV 2 hts gL_law_X6_as rfl rfl rfl (by decide +kernel) ⟨(Nat.le_of_ble_eq_true rfl), (Nat.le_of_ble_eq_true rfl)⟩) (va_recv hK hPa (ci := 4) (q0 := 0) rfl rfl) rfl hl.1 rfl rfl (Nat.le_of_ble_eq_true rfl) dL_law_480 ⟨(Nat.le_of_ble_eq_true rfl), (Nat.le_of_ble_eq_true rfl)⟩ (fun H1 locs hP1 hk hS => ?_)
  have hPa := hP1
  have hPb := pv_frame hPb (hXM x mm) hk
  generalize H1 = H at hPa hPb hS ⊢
  refine lv_aload_n (pc := 483) hx hb dL_law_483 rfl (lv_at hl 2 rfl) ?_
  refine lv_aload_n (pc := 484) hx hb dL_law_484 rfl (lv_at hl 0 rfl) ?_
  refine lv_iload_n (pc := 485) hx hb dL_law_485 rfl (lv_at hl 3 rfl) ?_
  refine lv_iconst (pc := 486) (v := nI 1) hx hb dL_law_486 (by decide) ?_
  refine lv_iadd (pc := 487) hx hb dL_law_487 ?_
  refine W.eq (g2 := F0 m 488 ls [.int (nI (i + 1)), .ref b, .ref b0, .int r]) (by rw [lw_i]) ?_
  refine va_sld (pc := 488) hx hb hX hbl hbA hS (vp_in_nI (by omega) (by omega)) dL_law_488 ?_
  refine lv_aload_n (pc := 489) hx hb dL_law_489 rfl (lv_at hl 0 rfl) ?_
  refine lv_iload_n (pc := 490) hx hb dL_law_490 rfl (lv_at hl 3 rfl) ?_
  refine lv_iconst (pc := 491) (v := nI 2) hx hb dL_law_491 (by decide) ?_
  refine lv_iadd (pc := 492) hx hb dL_law_492 ?_
  refine W.eq (g2 := F0 m 493 ls [.int (nI (i + 2)), .ref b, .int (xs (nI (i + 1)).toNatClampNeg), .ref b0, .int r]) (by rw [lw_i]) ?_
  refine va_sld (pc := 493) hx hb hX hbl hbA hS (vp_in_nI (by omega) (by omega)) dL_law_493 ?_
  refine pv_vRWk (pc := 494) (rest := [.int r]) (st1 := [.int r, .int r]) (ws := pv_wM E b0 b1 b2 b3 b4 b5 b6 b7 b8 b9 b10 mm) (w1 := pv_wM E b0 b1 b2 b3 b4 b5 b6 b7 b8 b9 b10 m2) [.int (xs (nI (i + 1)).toNatClampNeg), .int (xs (nI (i + 2)).toNatClampNeg)] ⟨hx, hb, hml, hown, hts⟩ hE hA hS hPb (hDb mm) (c_X7_as l E b0 b1 b2 b3 b4 b5 b6 b7 b8 b9 b10 (xs (nI (i + 1)).toNatClampNeg) (xs (nI (i + 2)).toNatClampNeg) mm (r, m2) h2) (cwV 2 hts gL_law_X7_as rfl rfl rfl (by decide +kernel) ⟨(Nat.le_of_ble_eq_true rfl), (Nat.le_of_ble_eq_true rfl)⟩) (va_recv hK hPb (ci := 5) (q0 := 0) rfl rfl) rfl hl.1 rfl rfl (Nat.le_of_ble_eq_true rfl) dL_law_494 ⟨(Nat.le_of_ble_eq_true rfl), (Nat.le_of_ble_eq_true rfl)⟩ (fun H1 locs hP1 hk hS => ?_)
  have hPb := hP1
  have hPa := pv_frame hPa (fun i j p q hp hq e => hXM x2 mm j i q p hq hp e.symm) hk
  generalize H1 = H at hPa hPb hS ⊢
  refine lv_icmp_eq (pc := 497) (tgt := 1446) hx hb dL_law_497 (by decide) (fun _ => ?_) (fun c9 => absurd rfl c9)
  exact K H locs ls hPa hPb hS hl
set_option maxHeartbeats 4000000 in
set_option maxRecDepth 100000 in
theorem law_c10 {p : Program} {l : Launch} {e : Env} {s : State} {m : MethodId} {below : List Frame} {meth : Method} {c : Code} {b L : Nat} {xs : Nat → Int32} {E : pv_E} {a : Nat → Nat} {b0 b1 b2 b3 b4 b5 b6 b7 b8 b9 b10 : Nat} (C0 : lw_C p s m meth c b L xs E a b0 b1 b2 b3 b4 b5 b6 b7 b8 b9 b10) (hL : L ≤ 3072) (i : Nat) (hi : i + 6 ≤ L) (Q : State → Prop) (x x2 : pv_XT) (mm m2 : pv_MT) (r : Int32) (h1 : m_X6_won (xs (nI (i + 1)).toNatClampNeg) (xs (nI (i + 2)).toNatClampNeg) x = some (r, x2)) (h2 : m_X7_won (xs (nI (i + 1)).toNatClampNeg) (xs (nI (i + 2)).toNatClampNeg) mm = some (r, m2))
    (K : ∀ (H : Heap) (locs : List Loc) (ls : Array Slot), va_P E.1 vwCl (pv_wX E a x2) H → va_P E.1 vwCl (pv_wM E b0 b1 b2 b3 b4 b5 b6 b7 b8 b9 b10 m2) H → va_S (fun q : Nat => s.heap.size ≤ q) s.heap H locs → lv_has ls 4 [(0, .ref b), (1, .ref (a 0)), (2, .ref b0), (3, .int (nI i))] → W p l e room_1 s m #[Value.ref b] below meth c H locs 48 871 Q (F0 m 1446 ls [])) : ∀ (H : Heap) (locs : List Loc) (ls : Array Slot), va_P E.1 vwCl (pv_wX E a x) H → va_P E.1 vwCl (pv_wM E b0 b1 b2 b3 b4 b5 b6 b7 b8 b9 b10 mm) H → va_S (fun q : Nat => s.heap.size ≤ q) s.heap H locs → lv_has ls 4 [(0, .ref b), (1, .ref (a 0)), (2, .ref b0), (3, .int (nI i))] → W p l e room_1 s m #[Value.ref b] below meth c H locs 48 871 Q (F0 m 502 ls []) := by
  obtain ⟨hx, hb, hml, hown, hts, hX, hbl, hE, hDa, hDb, hXM⟩ := C0
  have hK := hE.1
  have hA : ∀ q : Nat, s.heap.size ≤ q → (fun q : Nat => s.heap.size ≤ q) q := fun _ h => h
  have hbA : ¬ (fun q : Nat => s.heap.size ≤ q) b := Nat.not_le.mpr hbl
  intro H locs ls hPa hPb hS hl
  refine lv_aload_n (pc := 502) hx hb dL_law_502 rfl (lv_at hl 1 rfl) ?_
  refine lv_aload_n (pc := 503) hx hb dL_law_503 rfl (lv_at hl 0 rfl) ?_
  refine lv_iload_n (pc := 504) hx hb dL_law_504 rfl (lv_at hl 3 rfl) ?_
  refine lv_iconst (pc := 505) (v := nI 1) hx hb dL_law_505 (by decide) ?_
  refine lv_iadd (pc := 506) hx hb dL_law_506 ?_
  refine W.eq (g2 := F0 m 507 ls [.int (nI (i + 1)), .ref b, .ref (a 0)]) (by rw [lw_i]) ?_
  refine va_sld (pc := 507) hx hb hX hbl hbA hS (vp_in_nI (by omega) (by omega)) dL_law_507 ?_
  refine lv_aload_n (pc := 508) hx hb dL_law_508 rfl (lv_at hl 0 rfl) ?_
  refine lv_iload_n (pc := 509) hx hb dL_law_509 rfl (lv_at hl 3 rfl) ?_
  refine lv_iconst (pc := 510) (v := nI 2) hx hb dL_law_510 (by decide) ?_
  refine lv_iadd (pc := 511) hx hb dL_law_511 ?_
  refine W.eq (g2 := F0 m 512 ls [.int (nI (i + 2)), .ref b, .int (xs (nI (i + 1)).toNatClampNeg), .ref (a 0)]) (by rw [lw_i]) ?_
  refine va_sld (pc := 512) hx hb hX hbl hbA hS (vp_in_nI (by omega) (by omega)) dL_law_512 ?_
  refine pv_vRWk (pc := 513) (rest := []) (st1 := [.int r]) (ws := pv_wX E a x) (w1 := pv_wX E a x2) [.int (xs (nI (i + 1)).toNatClampNeg), .int (xs (nI (i + 2)).toNatClampNeg)] ⟨hx, hb, hml, hown, hts⟩ hE hA hS hPa (hDa x) (c_X6_won l E a (xs (nI (i + 1)).toNatClampNeg) (xs (nI (i + 2)).toNatClampNeg) x (r, x2) h1) (cwV 2 hts gL_law_X6_won rfl rfl rfl (by decide +kernel) ⟨(Nat.le_of_ble_eq_true rfl), (Nat.le_of_ble_eq_true rfl)⟩) (va_recv hK hPa (ci := 4) (q0 := 0) rfl rfl) rfl hl.1 rfl rfl (Nat.le_of_ble_eq_true rfl) dL_law_513 ⟨(Nat.le_of_ble_eq_true rfl), (Nat.le_of_ble_eq_true rfl)⟩ (fun H1 locs hP1 hk hS => ?_)
  have hPa := hP1
  have hPb := pv_frame hPb (hXM x mm) hk
  generalize H1 = H at hPa hPb hS ⊢
  refine lv_aload_n (pc := 516) hx hb dL_law_516 rfl (lv_at hl 2 rfl) ?_
  refine lv_aload_n (pc := 517) hx hb dL_law_517 rfl (lv_at hl 0 rfl) ?_
  refine lv_iload_n (pc := 518) hx hb dL_law_518 rfl (lv_at hl 3 rfl) ?_
  refine lv_iconst (pc := 519) (v := nI 1) hx hb dL_law_519 (by decide) ?_
  refine lv_iadd (pc := 520) hx hb dL_law_520 ?_
  refine W.eq (g2 := F0 m 521 ls [.int (nI (i + 1)), .ref b, .ref b0, .int r]) (by rw [lw_i]) ?_
  refine va_sld (pc := 521) hx hb hX hbl hbA hS (vp_in_nI (by omega) (by omega)) dL_law_521 ?_
  refine lv_aload_n (pc := 522) hx hb dL_law_522 rfl (lv_at hl 0 rfl) ?_
  refine lv_iload_n (pc := 523) hx hb dL_law_523 rfl (lv_at hl 3 rfl) ?_
  refine lv_iconst (pc := 524) (v := nI 2) hx hb dL_law_524 (by decide) ?_
  refine lv_iadd (pc := 525) hx hb dL_law_525 ?_
  refine W.eq (g2 := F0 m 526 ls [.int (nI (i + 2)), .ref b, .int (xs (nI (i + 1)).toNatClampNeg), .ref b0, .int r]) (by rw [lw_i]) ?_
  refine va_sld (pc := 526) hx hb hX hbl hbA hS (vp_in_nI (by omega) (by omega)) dL_law_526 ?_
  refine pv_vRWk (pc := 527) (rest := [.int r]) (st1 := [.int r, .int r]) (ws := pv_wM E b0 b1 b2 b3 b4 b5 b6 b7 b8 b9 b10 mm) (w1 := pv_wM E b0 b1 b2 b3 b4 b5 b6 b7 b8 b9 b10 m2) [.int (xs (nI (i + 1)).toNatClampNeg), .int (xs (nI (i + 2)).toNatClampNeg)] ⟨hx, hb, hml, hown, hts⟩ hE hA hS hPb (hDb mm) (c_X7_won l E b0 b1 b2 b3 b4 b5 b6 b7 b8 b9 b10 (xs (nI (i + 1)).toNatClampNeg) (xs (nI (i + 2)).toNatClampNeg) mm (r, m2) h2) (cwV 2 hts gL_law_X7_won rfl rfl rfl (by decide +kernel) ⟨(Nat.le_of_ble_eq_true rfl), (Nat.le_of_ble_eq_true rfl)⟩) (va_recv hK hPb (ci := 5) (q0 := 0) rfl rfl) rfl hl.1 rfl rfl (Nat.le_of_ble_eq_true rfl) dL_law_527 ⟨(Nat.le_of_ble_eq_true rfl), (Nat.le_of_ble_eq_true rfl)⟩ (fun H1 locs hP1 hk hS => ?_)
  have hPb := hP1
  have hPa := pv_frame hPa (fun i j p q hp hq e => hXM x2 mm j i q p hq hp e.symm) hk
  generalize H1 = H at hPa hPb hS ⊢
  refine lv_icmp_eq (pc := 530) (tgt := 1446) hx hb dL_law_530 (by decide) (fun _ => ?_) (fun c9 => absurd rfl c9)
  exact K H locs ls hPa hPb hS hl
set_option maxHeartbeats 4000000 in
set_option maxRecDepth 100000 in
theorem law_c11 {p : Program} {l : Launch} {e : Env} {s : State} {m : MethodId} {below : List Frame} {meth : Method} {c : Code} {b L : Nat} {xs : Nat → Int32} {E : pv_E} {a : Nat → Nat} {b0 b1 b2 b3 b4 b5 b6 b7 b8 b9 b10 : Nat} (C0 : lw_C p s m meth c b L xs E a b0 b1 b2 b3 b4 b5 b6 b7 b8 b9 b10) (hL : L ≤ 3072) (i : Nat) (hi : i + 6 ≤ L) (Q : State → Prop) (x x2 : pv_XT) (mm m2 : pv_MT) (r : Int32) (h1 : m_X6_send (xs (nI (i + 1)).toNatClampNeg) (xs (nI (i + 2)).toNatClampNeg) x = some (r, x2)) (h2 : m_X7_send (xs (nI (i + 1)).toNatClampNeg) (xs (nI (i + 2)).toNatClampNeg) mm = some (r, m2))
    (K : ∀ (H : Heap) (locs : List Loc) (ls : Array Slot), va_P E.1 vwCl (pv_wX E a x2) H → va_P E.1 vwCl (pv_wM E b0 b1 b2 b3 b4 b5 b6 b7 b8 b9 b10 m2) H → va_S (fun q : Nat => s.heap.size ≤ q) s.heap H locs → lv_has ls 4 [(0, .ref b), (1, .ref (a 0)), (2, .ref b0), (3, .int (nI i))] → W p l e room_1 s m #[Value.ref b] below meth c H locs 48 871 Q (F0 m 1446 ls [])) : ∀ (H : Heap) (locs : List Loc) (ls : Array Slot), va_P E.1 vwCl (pv_wX E a x) H → va_P E.1 vwCl (pv_wM E b0 b1 b2 b3 b4 b5 b6 b7 b8 b9 b10 mm) H → va_S (fun q : Nat => s.heap.size ≤ q) s.heap H locs → lv_has ls 4 [(0, .ref b), (1, .ref (a 0)), (2, .ref b0), (3, .int (nI i))] → W p l e room_1 s m #[Value.ref b] below meth c H locs 48 871 Q (F0 m 535 ls []) := by
  obtain ⟨hx, hb, hml, hown, hts, hX, hbl, hE, hDa, hDb, hXM⟩ := C0
  have hK := hE.1
  have hA : ∀ q : Nat, s.heap.size ≤ q → (fun q : Nat => s.heap.size ≤ q) q := fun _ h => h
  have hbA : ¬ (fun q : Nat => s.heap.size ≤ q) b := Nat.not_le.mpr hbl
  intro H locs ls hPa hPb hS hl
  refine lv_aload_n (pc := 535) hx hb dL_law_535 rfl (lv_at hl 1 rfl) ?_
  refine lv_aload_n (pc := 536) hx hb dL_law_536 rfl (lv_at hl 0 rfl) ?_
  refine lv_iload_n (pc := 537) hx hb dL_law_537 rfl (lv_at hl 3 rfl) ?_
  refine lv_iconst (pc := 538) (v := nI 1) hx hb dL_law_538 (by decide) ?_
  refine lv_iadd (pc := 539) hx hb dL_law_539 ?_
  refine W.eq (g2 := F0 m 540 ls [.int (nI (i + 1)), .ref b, .ref (a 0)]) (by rw [lw_i]) ?_
  refine va_sld (pc := 540) hx hb hX hbl hbA hS (vp_in_nI (by omega) (by omega)) dL_law_540 ?_
  refine lv_aload_n (pc := 541) hx hb dL_law_541 rfl (lv_at hl 0 rfl) ?_
  refine lv_iload_n (pc := 542) hx hb dL_law_542 rfl (lv_at hl 3 rfl) ?_
  refine lv_iconst (pc := 543) (v := nI 2) hx hb dL_law_543 (by decide) ?_
  refine lv_iadd (pc := 544) hx hb dL_law_544 ?_
  refine W.eq (g2 := F0 m 545 ls [.int (nI (i + 2)), .ref b, .int (xs (nI (i + 1)).toNatClampNeg), .ref (a 0)]) (by rw [lw_i]) ?_
  refine va_sld (pc := 545) hx hb hX hbl hbA hS (vp_in_nI (by omega) (by omega)) dL_law_545 ?_
  refine pv_vRWk (pc := 546) (rest := []) (st1 := [.int r]) (ws := pv_wX E a x) (w1 := pv_wX E a x2) [.int (xs (nI (i + 1)).toNatClampNeg), .int (xs (nI (i + 2)).toNatClampNeg)] ⟨hx, hb, hml, hown, hts⟩ hE hA hS hPa (hDa x) (c_X6_send l E a (xs (nI (i + 1)).toNatClampNeg) (xs (nI (i + 2)).toNatClampNeg) x (r, x2) h1) (cwV 2 hts gL_law_X6_send rfl rfl rfl (by decide +kernel) ⟨(Nat.le_of_ble_eq_true rfl), (Nat.le_of_ble_eq_true rfl)⟩) (va_recv hK hPa (ci := 4) (q0 := 0) rfl rfl) rfl hl.1 rfl rfl (Nat.le_of_ble_eq_true rfl) dL_law_546 ⟨(Nat.le_of_ble_eq_true rfl), (Nat.le_of_ble_eq_true rfl)⟩ (fun H1 locs hP1 hk hS => ?_)
  have hPa := hP1
  have hPb := pv_frame hPb (hXM x mm) hk
  generalize H1 = H at hPa hPb hS ⊢
  refine lv_aload_n (pc := 549) hx hb dL_law_549 rfl (lv_at hl 2 rfl) ?_
  refine lv_aload_n (pc := 550) hx hb dL_law_550 rfl (lv_at hl 0 rfl) ?_
  refine lv_iload_n (pc := 551) hx hb dL_law_551 rfl (lv_at hl 3 rfl) ?_
  refine lv_iconst (pc := 552) (v := nI 1) hx hb dL_law_552 (by decide) ?_
  refine lv_iadd (pc := 553) hx hb dL_law_553 ?_
  refine W.eq (g2 := F0 m 554 ls [.int (nI (i + 1)), .ref b, .ref b0, .int r]) (by rw [lw_i]) ?_
  refine va_sld (pc := 554) hx hb hX hbl hbA hS (vp_in_nI (by omega) (by omega)) dL_law_554 ?_
  refine lv_aload_n (pc := 555) hx hb dL_law_555 rfl (lv_at hl 0 rfl) ?_
  refine lv_iload_n (pc := 556) hx hb dL_law_556 rfl (lv_at hl 3 rfl) ?_
  refine lv_iconst (pc := 557) (v := nI 2) hx hb dL_law_557 (by decide) ?_
  refine lv_iadd (pc := 558) hx hb dL_law_558 ?_
  refine W.eq (g2 := F0 m 559 ls [.int (nI (i + 2)), .ref b, .int (xs (nI (i + 1)).toNatClampNeg), .ref b0, .int r]) (by rw [lw_i]) ?_
  refine va_sld (pc := 559) hx hb hX hbl hbA hS (vp_in_nI (by omega) (by omega)) dL_law_559 ?_
  refine pv_vRWk (pc := 560) (rest := [.int r]) (st1 := [.int r, .int r]) (ws := pv_wM E b0 b1 b2 b3 b4 b5 b6 b7 b8 b9 b10 mm) (w1 := pv_wM E b0 b1 b2 b3 b4 b5 b6 b7 b8 b9 b10 m2) [.int (xs (nI (i + 1)).toNatClampNeg), .int (xs (nI (i + 2)).toNatClampNeg)] ⟨hx, hb, hml, hown, hts⟩ hE hA hS hPb (hDb mm) (c_X7_send l E b0 b1 b2 b3 b4 b5 b6 b7 b8 b9 b10 (xs (nI (i + 1)).toNatClampNeg) (xs (nI (i + 2)).toNatClampNeg) mm (r, m2) h2) (cwV 2 hts gL_law_X7_send rfl rfl rfl (by decide +kernel) ⟨(Nat.le_of_ble_eq_true rfl), (Nat.le_of_ble_eq_true rfl)⟩) (va_recv hK hPb (ci := 5) (q0 := 0) rfl rfl) rfl hl.1 rfl rfl (Nat.le_of_ble_eq_true rfl) dL_law_560 ⟨(Nat.le_of_ble_eq_true rfl), (Nat.le_of_ble_eq_true rfl)⟩ (fun H1 locs hP1 hk hS => ?_)
  have hPb := hP1
  have hPa := pv_frame hPa (fun i j p q hp hq e => hXM x2 mm j i q p hq hp e.symm) hk
  generalize H1 = H at hPa hPb hS ⊢
  refine lv_icmp_eq (pc := 563) (tgt := 1446) hx hb dL_law_563 (by decide) (fun _ => ?_) (fun c9 => absurd rfl c9)
  exact K H locs ls hPa hPb hS hl
set_option maxHeartbeats 4000000 in
set_option maxRecDepth 100000 in
theorem law_c12 {p : Program} {l : Launch} {e : Env} {s : State} {m : MethodId} {below : List Frame} {meth : Method} {c : Code} {b L : Nat} {xs : Nat → Int32} {E : pv_E} {a : Nat → Nat} {b0 b1 b2 b3 b4 b5 b6 b7 b8 b9 b10 : Nat} (C0 : lw_C p s m meth c b L xs E a b0 b1 b2 b3 b4 b5 b6 b7 b8 b9 b10) (hL : L ≤ 3072) (i : Nat) (hi : i + 6 ≤ L) (Q : State → Prop) (x x2 : pv_XT) (mm m2 : pv_MT) (r : Int32) (h1 : m_X6_leads (xs (nI (i + 1)).toNatClampNeg) (xs (nI (i + 2)).toNatClampNeg) x = some (r, x2)) (h2 : m_X7_leads (xs (nI (i + 1)).toNatClampNeg) (xs (nI (i + 2)).toNatClampNeg) mm = some (r, m2))
    (K : ∀ (H : Heap) (locs : List Loc) (ls : Array Slot), va_P E.1 vwCl (pv_wX E a x2) H → va_P E.1 vwCl (pv_wM E b0 b1 b2 b3 b4 b5 b6 b7 b8 b9 b10 m2) H → va_S (fun q : Nat => s.heap.size ≤ q) s.heap H locs → lv_has ls 4 [(0, .ref b), (1, .ref (a 0)), (2, .ref b0), (3, .int (nI i))] → W p l e room_1 s m #[Value.ref b] below meth c H locs 48 871 Q (F0 m 1446 ls [])) : ∀ (H : Heap) (locs : List Loc) (ls : Array Slot), va_P E.1 vwCl (pv_wX E a x) H → va_P E.1 vwCl (pv_wM E b0 b1 b2 b3 b4 b5 b6 b7 b8 b9 b10 mm) H → va_S (fun q : Nat => s.heap.size ≤ q) s.heap H locs → lv_has ls 4 [(0, .ref b), (1, .ref (a 0)), (2, .ref b0), (3, .int (nI i))] → W p l e room_1 s m #[Value.ref b] below meth c H locs 48 871 Q (F0 m 568 ls []) := by
  obtain ⟨hx, hb, hml, hown, hts, hX, hbl, hE, hDa, hDb, hXM⟩ := C0
  have hK := hE.1
  have hA : ∀ q : Nat, s.heap.size ≤ q → (fun q : Nat => s.heap.size ≤ q) q := fun _ h => h
  have hbA : ¬ (fun q : Nat => s.heap.size ≤ q) b := Nat.not_le.mpr hbl
  intro H locs ls hPa hPb hS hl
  refine lv_aload_n (pc := 568) hx hb dL_law_568 rfl (lv_at hl 1 rfl) ?_
  refine lv_aload_n (pc := 569) hx hb dL_law_569 rfl (lv_at hl 0 rfl) ?_
  refine lv_iload_n (pc := 570) hx hb dL_law_570 rfl (lv_at hl 3 rfl) ?_
  refine lv_iconst (pc := 571) (v := nI 1) hx hb dL_law_571 (by decide) ?_
  refine lv_iadd (pc := 572) hx hb dL_law_572 ?_
  refine W.eq (g2 := F0 m 573 ls [.int (nI (i + 1)), .ref b, .ref (a 0)]) (by rw [lw_i]) ?_
  refine va_sld (pc := 573) hx hb hX hbl hbA hS (vp_in_nI (by omega) (by omega)) dL_law_573 ?_
  refine lv_aload_n (pc := 574) hx hb dL_law_574 rfl (lv_at hl 0 rfl) ?_
  refine lv_iload_n (pc := 575) hx hb dL_law_575 rfl (lv_at hl 3 rfl) ?_
  refine lv_iconst (pc := 576) (v := nI 2) hx hb dL_law_576 (by decide) ?_
  refine lv_iadd (pc := 577) hx hb dL_law_577 ?_
  refine W.eq (g2 := F0 m 578 ls [.int (nI (i + 2)), .ref b, .int (xs (nI (i + 1)).toNatClampNeg), .ref (a 0)]) (by rw [lw_i]) ?_
  refine va_sld (pc := 578) hx hb hX hbl hbA hS (vp_in_nI (by omega) (by omega)) dL_law_578 ?_
  refine pv_vRWk (pc := 579) (rest := []) (st1 := [.int r]) (ws := pv_wX E a x) (w1 := pv_wX E a x2) [.int (xs (nI (i + 1)).toNatClampNeg), .int (xs (nI (i + 2)).toNatClampNeg)] ⟨hx, hb, hml, hown, hts⟩ hE hA hS hPa (hDa x) (c_X6_leads l E a (xs (nI (i + 1)).toNatClampNeg) (xs (nI (i + 2)).toNatClampNeg) x (r, x2) h1) (cwV 2 hts gL_law_X6_leads rfl rfl rfl (by decide +kernel) ⟨(Nat.le_of_ble_eq_true rfl), (Nat.le_of_ble_eq_true rfl)⟩) (va_recv hK hPa (ci := 4) (q0 := 0) rfl rfl) rfl hl.1 rfl rfl (Nat.le_of_ble_eq_true rfl) dL_law_579 ⟨(Nat.le_of_ble_eq_true rfl), (Nat.le_of_ble_eq_true rfl)⟩ (fun H1 locs hP1 hk hS => ?_)
  have hPa := hP1
  have hPb := pv_frame hPb (hXM x mm) hk
  generalize H1 = H at hPa hPb hS ⊢
  refine lv_aload_n (pc := 582) hx hb dL_law_582 rfl (lv_at hl 2 rfl) ?_
  refine lv_aload_n (pc := 583) hx hb dL_law_583 rfl (lv_at hl 0 rfl) ?_
  refine lv_iload_n (pc := 584) hx hb dL_law_584 rfl (lv_at hl 3 rfl) ?_
  refine lv_iconst (pc := 585) (v := nI 1) hx hb dL_law_585 (by decide) ?_
  refine lv_iadd (pc := 586) hx hb dL_law_586 ?_
  refine W.eq (g2 := F0 m 587 ls [.int (nI (i + 1)), .ref b, .ref b0, .int r]) (by rw [lw_i]) ?_
  refine va_sld (pc := 587) hx hb hX hbl hbA hS (vp_in_nI (by omega) (by omega)) dL_law_587 ?_
  refine lv_aload_n (pc := 588) hx hb dL_law_588 rfl (lv_at hl 0 rfl) ?_
  refine lv_iload_n (pc := 589) hx hb dL_law_589 rfl (lv_at hl 3 rfl) ?_
  refine lv_iconst (pc := 590) (v := nI 2) hx hb dL_law_590 (by decide) ?_
  refine lv_iadd (pc := 591) hx hb dL_law_591 ?_
  refine W.eq (g2 := F0 m 592 ls [.int (nI (i + 2)), .ref b, .int (xs (nI (i + 1)).toNatClampNeg), .ref b0, .int r]) (by rw [lw_i]) ?_
  refine va_sld (pc := 592) hx hb hX hbl hbA hS (vp_in_nI (by omega) (by omega)) dL_law_592 ?_
  refine pv_vRWk (pc := 593) (rest := [.int r]) (st1 := [.int r, .int r]) (ws := pv_wM E b0 b1 b2 b3 b4 b5 b6 b7 b8 b9 b10 mm) (w1 := pv_wM E b0 b1 b2 b3 b4 b5 b6 b7 b8 b9 b10 m2) [.int (xs (nI (i + 1)).toNatClampNeg), .int (xs (nI (i + 2)).toNatClampNeg)] ⟨hx, hb, hml, hown, hts⟩ hE hA hS hPb (hDb mm) (c_X7_leads l E b0 b1 b2 b3 b4 b5 b6 b7 b8 b9 b10 (xs (nI (i + 1)).toNatClampNeg) (xs (nI (i + 2)).toNatClampNeg) mm (r, m2) h2) (cwV 2 hts gL_law_X7_leads rfl rfl rfl (by decide +kernel) ⟨(Nat.le_of_ble_eq_true rfl), (Nat.le_of_ble_eq_true rfl)⟩) (va_recv hK hPb (ci := 5) (q0 := 0) rfl rfl) rfl hl.1 rfl rfl (Nat.le_of_ble_eq_true rfl) dL_law_593 ⟨(Nat.le_of_ble_eq_true rfl), (Nat.le_of_ble_eq_true rfl)⟩ (fun H1 locs hP1 hk hS => ?_)
  have hPb := hP1
  have hPa := pv_frame hPa (fun i j p q hp hq e => hXM x2 mm j i q p hq hp e.symm) hk
  generalize H1 = H at hPa hPb hS ⊢
  refine lv_icmp_eq (pc := 596) (tgt := 1446) hx hb dL_law_596 (by decide) (fun _ => ?_) (fun c9 => absurd rfl c9)
  exact K H locs ls hPa hPb hS hl
set_option maxHeartbeats 4000000 in
set_option maxRecDepth 100000 in
theorem law_c13 {p : Program} {l : Launch} {e : Env} {s : State} {m : MethodId} {below : List Frame} {meth : Method} {c : Code} {b L : Nat} {xs : Nat → Int32} {E : pv_E} {a : Nat → Nat} {b0 b1 b2 b3 b4 b5 b6 b7 b8 b9 b10 : Nat} (C0 : lw_C p s m meth c b L xs E a b0 b1 b2 b3 b4 b5 b6 b7 b8 b9 b10) (hL : L ≤ 3072) (i : Nat) (hi : i + 6 ≤ L) (Q : State → Prop) (x x2 : pv_XT) (mm m2 : pv_MT) (r : Int32) (h1 : m_X6_follows (xs (nI (i + 1)).toNatClampNeg) (xs (nI (i + 2)).toNatClampNeg) (xs (nI (i + 3)).toNatClampNeg) x = some (r, x2)) (h2 : m_X7_follows (xs (nI (i + 1)).toNatClampNeg) (xs (nI (i + 2)).toNatClampNeg) (xs (nI (i + 3)).toNatClampNeg) mm = some (r, m2))
    (K : ∀ (H : Heap) (locs : List Loc) (ls : Array Slot), va_P E.1 vwCl (pv_wX E a x2) H → va_P E.1 vwCl (pv_wM E b0 b1 b2 b3 b4 b5 b6 b7 b8 b9 b10 m2) H → va_S (fun q : Nat => s.heap.size ≤ q) s.heap H locs → lv_has ls 4 [(0, .ref b), (1, .ref (a 0)), (2, .ref b0), (3, .int (nI i))] → W p l e room_1 s m #[Value.ref b] below meth c H locs 48 871 Q (F0 m 1446 ls [])) : ∀ (H : Heap) (locs : List Loc) (ls : Array Slot), va_P E.1 vwCl (pv_wX E a x) H → va_P E.1 vwCl (pv_wM E b0 b1 b2 b3 b4 b5 b6 b7 b8 b9 b10 mm) H → va_S (fun q : Nat => s.heap.size ≤ q) s.heap H locs → lv_has ls 4 [(0, .ref b), (1, .ref (a 0)), (2, .ref b0), (3, .int (nI i))] → W p l e room_1 s m #[Value.ref b] below meth c H locs 48 871 Q (F0 m 601 ls []) := by
  obtain ⟨hx, hb, hml, hown, hts, hX, hbl, hE, hDa, hDb, hXM⟩ := C0
  have hK := hE.1
  have hA : ∀ q : Nat, s.heap.size ≤ q → (fun q : Nat => s.heap.size ≤ q) q := fun _ h => h
  have hbA : ¬ (fun q : Nat => s.heap.size ≤ q) b := Nat.not_le.mpr hbl
  intro H locs ls hPa hPb hS hl
  refine lv_aload_n (pc := 601) hx hb dL_law_601 rfl (lv_at hl 1 rfl) ?_
  refine lv_aload_n (pc := 602) hx hb dL_law_602 rfl (lv_at hl 0 rfl) ?_
  refine lv_iload_n (pc := 603) hx hb dL_law_603 rfl (lv_at hl 3 rfl) ?_
  refine lv_iconst (pc := 604) (v := nI 1) hx hb dL_law_604 (by decide) ?_
  refine lv_iadd (pc := 605) hx hb dL_law_605 ?_
  refine W.eq (g2 := F0 m 606 ls [.int (nI (i + 1)), .ref b, .ref (a 0)]) (by rw [lw_i]) ?_
  refine va_sld (pc := 606) hx hb hX hbl hbA hS (vp_in_nI (by omega) (by omega)) dL_law_606 ?_
  refine lv_aload_n (pc := 607) hx hb dL_law_607 rfl (lv_at hl 0 rfl) ?_
  refine lv_iload_n (pc := 608) hx hb dL_law_608 rfl (lv_at hl 3 rfl) ?_
  refine lv_iconst (pc := 609) (v := nI 2) hx hb dL_law_609 (by decide) ?_
  refine lv_iadd (pc := 610) hx hb dL_law_610 ?_
  refine W.eq (g2 := F0 m 611 ls [.int (nI (i + 2)), .ref b, .int (xs (nI (i + 1)).toNatClampNeg), .ref (a 0)]) (by rw [lw_i]) ?_
  refine va_sld (pc := 611) hx hb hX hbl hbA hS (vp_in_nI (by omega) (by omega)) dL_law_611 ?_
  refine lv_aload_n (pc := 612) hx hb dL_law_612 rfl (lv_at hl 0 rfl) ?_
  refine lv_iload_n (pc := 613) hx hb dL_law_613 rfl (lv_at hl 3 rfl) ?_
  refine lv_iconst (pc := 614) (v := nI 3) hx hb dL_law_614 (by decide) ?_
  refine lv_iadd (pc := 615) hx hb dL_law_615 ?_
  refine W.eq (g2 := F0 m 616 ls [.int (nI (i + 3)), .ref b, .int (xs (nI (i + 2)).toNatClampNeg), .int (xs (nI (i + 1)).toNatClampNeg), .ref (a 0)]) (by rw [lw_i]) ?_
  refine va_sld (pc := 616) hx hb hX hbl hbA hS (vp_in_nI (by omega) (by omega)) dL_law_616 ?_
  refine pv_vRWk (pc := 617) (rest := []) (st1 := [.int r]) (ws := pv_wX E a x) (w1 := pv_wX E a x2) [.int (xs (nI (i + 1)).toNatClampNeg), .int (xs (nI (i + 2)).toNatClampNeg), .int (xs (nI (i + 3)).toNatClampNeg)] ⟨hx, hb, hml, hown, hts⟩ hE hA hS hPa (hDa x) (c_X6_follows l E a (xs (nI (i + 1)).toNatClampNeg) (xs (nI (i + 2)).toNatClampNeg) (xs (nI (i + 3)).toNatClampNeg) x (r, x2) h1) (cwV 3 hts gL_law_X6_follows rfl rfl rfl (by decide +kernel) ⟨(Nat.le_of_ble_eq_true rfl), (Nat.le_of_ble_eq_true rfl)⟩) (va_recv hK hPa (ci := 4) (q0 := 0) rfl rfl) rfl hl.1 rfl rfl (Nat.le_of_ble_eq_true rfl) dL_law_617 ⟨(Nat.le_of_ble_eq_true rfl), (Nat.le_of_ble_eq_true rfl)⟩ (fun H1 locs hP1 hk hS => ?_)
  have hPa := hP1
  have hPb := pv_frame hPb (hXM x mm) hk
  generalize H1 = H at hPa hPb hS ⊢
  refine lv_aload_n (pc := 620) hx hb dL_law_620 rfl (lv_at hl 2 rfl) ?_
  refine lv_aload_n (pc := 621) hx hb dL_law_621 rfl (lv_at hl 0 rfl) ?_
  refine lv_iload_n (pc := 622) hx hb dL_law_622 rfl (lv_at hl 3 rfl) ?_
  refine lv_iconst (pc := 623) (v := nI 1) hx hb dL_law_623 (by decide) ?_
  refine lv_iadd (pc := 624) hx hb dL_law_624 ?_
  refine W.eq (g2 := F0 m 625 ls [.int (nI (i + 1)), .ref b, .ref b0, .int r]) (by rw [lw_i]) ?_
  refine va_sld (pc := 625) hx hb hX hbl hbA hS (vp_in_nI (by omega) (by omega)) dL_law_625 ?_
  refine lv_aload_n (pc := 626) hx hb dL_law_626 rfl (lv_at hl 0 rfl) ?_
  refine lv_iload_n (pc := 627) hx hb dL_law_627 rfl (lv_at hl 3 rfl) ?_
  refine lv_iconst (pc := 628) (v := nI 2) hx hb dL_law_628 (by decide) ?_
  refine lv_iadd (pc := 629) hx hb dL_law_629 ?_
  refine W.eq (g2 := F0 m 630 ls [.int (nI (i + 2)), .ref b, .int (xs (nI (i + 1)).toNatClampNeg), .ref b0, .int r]) (by rw [lw_i]) ?_
  refine va_sld (pc := 630) hx hb hX hbl hbA hS (vp_in_nI (by omega) (by omega)) dL_law_630 ?_
  refine lv_aload_n (pc := 631) hx hb dL_law_631 rfl (lv_at hl 0 rfl) ?_
  refine lv_iload_n (pc := 632) hx hb dL_law_632 rfl (lv_at hl 3 rfl) ?_
  refine lv_iconst (pc := 633) (v := nI 3) hx hb dL_law_633 (by decide) ?_
  refine lv_iadd (pc := 634) hx hb dL_law_634 ?_
  refine W.eq (g2 := F0 m 635 ls [.int (nI (i + 3)), .ref b, .int (xs (nI (i + 2)).toNatClampNeg), .int (xs (nI (i + 1)).toNatClampNeg), .ref b0, .int r]) (by rw [lw_i]) ?_
  refine va_sld (pc := 635) hx hb hX hbl hbA hS (vp_in_nI (by omega) (by omega)) dL_law_635 ?_
  refine pv_vRWk (pc := 636) (rest := [.int r]) (st1 := [.int r, .int r]) (ws := pv_wM E b0 b1 b2 b3 b4 b5 b6 b7 b8 b9 b10 mm) (w1 := pv_wM E b0 b1 b2 b3 b4 b5 b6 b7 b8 b9 b10 m2) [.int (xs (nI (i + 1)).toNatClampNeg), .int (xs (nI (i + 2)).toNatClampNeg), .int (xs (nI (i + 3)).toNatClampNeg)] ⟨hx, hb, hml, hown, hts⟩ hE hA hS hPb (hDb mm) (c_X7_follows l E b0 b1 b2 b3 b4 b5 b6 b7 b8 b9 b10 (xs (nI (i + 1)).toNatClampNeg) (xs (nI (i + 2)).toNatClampNeg) (xs (nI (i + 3)).toNatClampNeg) mm (r, m2) h2) (cwV 3 hts gL_law_X7_follows rfl rfl rfl (by decide +kernel) ⟨(Nat.le_of_ble_eq_true rfl), (Nat.le_of_ble_eq_true rfl)⟩) (va_recv hK hPb (ci := 5) (q0 := 0) rfl rfl) rfl hl.1 rfl rfl (Nat.le_of_ble_eq_true rfl) dL_law_636 ⟨(Nat.le_of_ble_eq_true rfl), (Nat.le_of_ble_eq_true rfl)⟩ (fun H1 locs hP1 hk hS => ?_)
  have hPb := hP1
  have hPa := pv_frame hPa (fun i j p q hp hq e => hXM x2 mm j i q p hq hp e.symm) hk
  generalize H1 = H at hPa hPb hS ⊢
  refine lv_icmp_eq (pc := 639) (tgt := 1446) hx hb dL_law_639 (by decide) (fun _ => ?_) (fun c9 => absurd rfl c9)
  exact K H locs ls hPa hPb hS hl
set_option maxHeartbeats 4000000 in
set_option maxRecDepth 100000 in
theorem law_c14 {p : Program} {l : Launch} {e : Env} {s : State} {m : MethodId} {below : List Frame} {meth : Method} {c : Code} {b L : Nat} {xs : Nat → Int32} {E : pv_E} {a : Nat → Nat} {b0 b1 b2 b3 b4 b5 b6 b7 b8 b9 b10 : Nat} (C0 : lw_C p s m meth c b L xs E a b0 b1 b2 b3 b4 b5 b6 b7 b8 b9 b10) (hL : L ≤ 3072) (i : Nat) (hi : i + 6 ≤ L) (Q : State → Prop) (x x2 : pv_XT) (mm m2 : pv_MT) (r : Int32) (h1 : m_X6_trick (xs (nI (i + 1)).toNatClampNeg) (xs (nI (i + 2)).toNatClampNeg) x = some (r, x2)) (h2 : m_X7_trick (xs (nI (i + 1)).toNatClampNeg) (xs (nI (i + 2)).toNatClampNeg) mm = some (r, m2))
    (K : ∀ (H : Heap) (locs : List Loc) (ls : Array Slot), va_P E.1 vwCl (pv_wX E a x2) H → va_P E.1 vwCl (pv_wM E b0 b1 b2 b3 b4 b5 b6 b7 b8 b9 b10 m2) H → va_S (fun q : Nat => s.heap.size ≤ q) s.heap H locs → lv_has ls 4 [(0, .ref b), (1, .ref (a 0)), (2, .ref b0), (3, .int (nI i))] → W p l e room_1 s m #[Value.ref b] below meth c H locs 48 871 Q (F0 m 1446 ls [])) : ∀ (H : Heap) (locs : List Loc) (ls : Array Slot), va_P E.1 vwCl (pv_wX E a x) H → va_P E.1 vwCl (pv_wM E b0 b1 b2 b3 b4 b5 b6 b7 b8 b9 b10 mm) H → va_S (fun q : Nat => s.heap.size ≤ q) s.heap H locs → lv_has ls 4 [(0, .ref b), (1, .ref (a 0)), (2, .ref b0), (3, .int (nI i))] → W p l e room_1 s m #[Value.ref b] below meth c H locs 48 871 Q (F0 m 644 ls []) := by
  obtain ⟨hx, hb, hml, hown, hts, hX, hbl, hE, hDa, hDb, hXM⟩ := C0
  have hK := hE.1
  have hA : ∀ q : Nat, s.heap.size ≤ q → (fun q : Nat => s.heap.size ≤ q) q := fun _ h => h
  have hbA : ¬ (fun q : Nat => s.heap.size ≤ q) b := Nat.not_le.mpr hbl
  intro H locs ls hPa hPb hS hl
  refine lv_aload_n (pc := 644) hx hb dL_law_644 rfl (lv_at hl 1 rfl) ?_
  refine lv_aload_n (pc := 645) hx hb dL_law_645 rfl (lv_at hl 0 rfl) ?_
  refine lv_iload_n (pc := 646) hx hb dL_law_646 rfl (lv_at hl 3 rfl) ?_
  refine lv_iconst (pc := 647) (v := nI 1) hx hb dL_law_647 (by decide) ?_
  refine lv_iadd (pc := 648) hx hb dL_law_648 ?_
  refine W.eq (g2 := F0 m 649 ls [.int (nI (i + 1)), .ref b, .ref (a 0)]) (by rw [lw_i]) ?_
  refine va_sld (pc := 649) hx hb hX hbl hbA hS (vp_in_nI (by omega) (by omega)) dL_law_649 ?_
  refine lv_aload_n (pc := 650) hx hb dL_law_650 rfl (lv_at hl 0 rfl) ?_
  refine lv_iload_n (pc := 651) hx hb dL_law_651 rfl (lv_at hl 3 rfl) ?_
  refine lv_iconst (pc := 652) (v := nI 2) hx hb dL_law_652 (by decide) ?_
  refine lv_iadd (pc := 653) hx hb dL_law_653 ?_
  refine W.eq (g2 := F0 m 654 ls [.int (nI (i + 2)), .ref b, .int (xs (nI (i + 1)).toNatClampNeg), .ref (a 0)]) (by rw [lw_i]) ?_
  refine va_sld (pc := 654) hx hb hX hbl hbA hS (vp_in_nI (by omega) (by omega)) dL_law_654 ?_
  refine pv_vRWk (pc := 655) (rest := []) (st1 := [.int r]) (ws := pv_wX E a x) (w1 := pv_wX E a x2) [.int (xs (nI (i + 1)).toNatClampNeg), .int (xs (nI (i + 2)).toNatClampNeg)] ⟨hx, hb, hml, hown, hts⟩ hE hA hS hPa (hDa x) (c_X6_trick l E a (xs (nI (i + 1)).toNatClampNeg) (xs (nI (i + 2)).toNatClampNeg) x (r, x2) h1) (cwV 2 hts gL_law_X6_trick rfl rfl rfl (by decide +kernel) ⟨(Nat.le_of_ble_eq_true rfl), (Nat.le_of_ble_eq_true rfl)⟩) (va_recv hK hPa (ci := 4) (q0 := 0) rfl rfl) rfl hl.1 rfl rfl (Nat.le_of_ble_eq_true rfl) dL_law_655 ⟨(Nat.le_of_ble_eq_true rfl), (Nat.le_of_ble_eq_true rfl)⟩ (fun H1 locs hP1 hk hS => ?_)
  have hPa := hP1
  have hPb := pv_frame hPb (hXM x mm) hk
  generalize H1 = H at hPa hPb hS ⊢
  refine lv_aload_n (pc := 658) hx hb dL_law_658 rfl (lv_at hl 2 rfl) ?_
  refine lv_aload_n (pc := 659) hx hb dL_law_659 rfl (lv_at hl 0 rfl) ?_
  refine lv_iload_n (pc := 660) hx hb dL_law_660 rfl (lv_at hl 3 rfl) ?_
  refine lv_iconst (pc := 661) (v := nI 1) hx hb dL_law_661 (by decide) ?_
  refine lv_iadd (pc := 662) hx hb dL_law_662 ?_
  refine W.eq (g2 := F0 m 663 ls [.int (nI (i + 1)), .ref b, .ref b0, .int r]) (by rw [lw_i]) ?_
  refine va_sld (pc := 663) hx hb hX hbl hbA hS (vp_in_nI (by omega) (by omega)) dL_law_663 ?_
  refine lv_aload_n (pc := 664) hx hb dL_law_664 rfl (lv_at hl 0 rfl) ?_
  refine lv_iload_n (pc := 665) hx hb dL_law_665 rfl (lv_at hl 3 rfl) ?_
  refine lv_iconst (pc := 666) (v := nI 2) hx hb dL_law_666 (by decide) ?_
  refine lv_iadd (pc := 667) hx hb dL_law_667 ?_
  refine W.eq (g2 := F0 m 668 ls [.int (nI (i + 2)), .ref b, .int (xs (nI (i + 1)).toNatClampNeg), .ref b0, .int r]) (by rw [lw_i]) ?_
  refine va_sld (pc := 668) hx hb hX hbl hbA hS (vp_in_nI (by omega) (by omega)) dL_law_668 ?_
  refine pv_vRWk (pc := 669) (rest := [.int r]) (st1 := [.int r, .int r]) (ws := pv_wM E b0 b1 b2 b3 b4 b5 b6 b7 b8 b9 b10 mm) (w1 := pv_wM E b0 b1 b2 b3 b4 b5 b6 b7 b8 b9 b10 m2) [.int (xs (nI (i + 1)).toNatClampNeg), .int (xs (nI (i + 2)).toNatClampNeg)] ⟨hx, hb, hml, hown, hts⟩ hE hA hS hPb (hDb mm) (c_X7_trick l E b0 b1 b2 b3 b4 b5 b6 b7 b8 b9 b10 (xs (nI (i + 1)).toNatClampNeg) (xs (nI (i + 2)).toNatClampNeg) mm (r, m2) h2) (cwV 2 hts gL_law_X7_trick rfl rfl rfl (by decide +kernel) ⟨(Nat.le_of_ble_eq_true rfl), (Nat.le_of_ble_eq_true rfl)⟩) (va_recv hK hPb (ci := 5) (q0 := 0) rfl rfl) rfl hl.1 rfl rfl (Nat.le_of_ble_eq_true rfl) dL_law_669 ⟨(Nat.le_of_ble_eq_true rfl), (Nat.le_of_ble_eq_true rfl)⟩ (fun H1 locs hP1 hk hS => ?_)
  have hPb := hP1
  have hPa := pv_frame hPa (fun i j p q hp hq e => hXM x2 mm j i q p hq hp e.symm) hk
  generalize H1 = H at hPa hPb hS ⊢
  refine lv_icmp_eq (pc := 672) (tgt := 1446) hx hb dL_law_672 (by decide) (fun _ => ?_) (fun c9 => absurd rfl c9)
  exact K H locs ls hPa hPb hS hl
set_option maxHeartbeats 4000000 in
set_option maxRecDepth 100000 in
theorem law_c15 {p : Program} {l : Launch} {e : Env} {s : State} {m : MethodId} {below : List Frame} {meth : Method} {c : Code} {b L : Nat} {xs : Nat → Int32} {E : pv_E} {a : Nat → Nat} {b0 b1 b2 b3 b4 b5 b6 b7 b8 b9 b10 : Nat} (C0 : lw_C p s m meth c b L xs E a b0 b1 b2 b3 b4 b5 b6 b7 b8 b9 b10) (hL : L ≤ 3072) (i : Nat) (hi : i + 6 ≤ L) (Q : State → Prop) (x x2 : pv_XT) (mm m2 : pv_MT) (r : Int32) (h1 : m_X6_tricks  x = some (r, x2)) (h2 : m_X7_tricks  mm = some (r, m2))
    (K : ∀ (H : Heap) (locs : List Loc) (ls : Array Slot), va_P E.1 vwCl (pv_wX E a x2) H → va_P E.1 vwCl (pv_wM E b0 b1 b2 b3 b4 b5 b6 b7 b8 b9 b10 m2) H → va_S (fun q : Nat => s.heap.size ≤ q) s.heap H locs → lv_has ls 4 [(0, .ref b), (1, .ref (a 0)), (2, .ref b0), (3, .int (nI i))] → W p l e room_1 s m #[Value.ref b] below meth c H locs 48 871 Q (F0 m 1446 ls [])) : ∀ (H : Heap) (locs : List Loc) (ls : Array Slot), va_P E.1 vwCl (pv_wX E a x) H → va_P E.1 vwCl (pv_wM E b0 b1 b2 b3 b4 b5 b6 b7 b8 b9 b10 mm) H → va_S (fun q : Nat => s.heap.size ≤ q) s.heap H locs → lv_has ls 4 [(0, .ref b), (1, .ref (a 0)), (2, .ref b0), (3, .int (nI i))] → W p l e room_1 s m #[Value.ref b] below meth c H locs 48 871 Q (F0 m 677 ls []) := by
  obtain ⟨hx, hb, hml, hown, hts, hX, hbl, hE, hDa, hDb, hXM⟩ := C0
  have hK := hE.1
  have hA : ∀ q : Nat, s.heap.size ≤ q → (fun q : Nat => s.heap.size ≤ q) q := fun _ h => h
  have hbA : ¬ (fun q : Nat => s.heap.size ≤ q) b := Nat.not_le.mpr hbl
  intro H locs ls hPa hPb hS hl
  refine lv_aload_n (pc := 677) hx hb dL_law_677 rfl (lv_at hl 1 rfl) ?_
  refine pv_vRWk (pc := 678) (rest := []) (st1 := [.int r]) (ws := pv_wX E a x) (w1 := pv_wX E a x2) [] ⟨hx, hb, hml, hown, hts⟩ hE hA hS hPa (hDa x) (c_X6_tricks l E a  x (r, x2) h1) (cwV 0 hts gL_law_X6_tricks rfl rfl rfl (by decide +kernel) ⟨(Nat.le_of_ble_eq_true rfl), (Nat.le_of_ble_eq_true rfl)⟩) (va_recv hK hPa (ci := 4) (q0 := 0) rfl rfl) rfl hl.1 rfl rfl (Nat.le_of_ble_eq_true rfl) dL_law_678 ⟨(Nat.le_of_ble_eq_true rfl), (Nat.le_of_ble_eq_true rfl)⟩ (fun H1 locs hP1 hk hS => ?_)
  have hPa := hP1
  have hPb := pv_frame hPb (hXM x mm) hk
  generalize H1 = H at hPa hPb hS ⊢
  refine lv_aload_n (pc := 681) hx hb dL_law_681 rfl (lv_at hl 2 rfl) ?_
  refine pv_vRWk (pc := 682) (rest := [.int r]) (st1 := [.int r, .int r]) (ws := pv_wM E b0 b1 b2 b3 b4 b5 b6 b7 b8 b9 b10 mm) (w1 := pv_wM E b0 b1 b2 b3 b4 b5 b6 b7 b8 b9 b10 m2) [] ⟨hx, hb, hml, hown, hts⟩ hE hA hS hPb (hDb mm) (c_X7_tricks l E b0 b1 b2 b3 b4 b5 b6 b7 b8 b9 b10  mm (r, m2) h2) (cwV 0 hts gL_law_X7_tricks rfl rfl rfl (by decide +kernel) ⟨(Nat.le_of_ble_eq_true rfl), (Nat.le_of_ble_eq_true rfl)⟩) (va_recv hK hPb (ci := 5) (q0 := 0) rfl rfl) rfl hl.1 rfl rfl (Nat.le_of_ble_eq_true rfl) dL_law_682 ⟨(Nat.le_of_ble_eq_true rfl), (Nat.le_of_ble_eq_true rfl)⟩ (fun H1 locs hP1 hk hS => ?_)
  have hPb := hP1
  have hPa := pv_frame hPa (fun i j p q hp hq e => hXM x2 mm j i q p hq hp e.symm) hk
  generalize H1 = H at hPa hPb hS ⊢
  refine lv_icmp_eq (pc := 685) (tgt := 1446) hx hb dL_law_685 (by decide) (fun _ => ?_) (fun c9 => absurd rfl c9)
  exact K H locs ls hPa hPb hS hl
set_option maxHeartbeats 4000000 in
set_option maxRecDepth 100000 in
theorem law_c16 {p : Program} {l : Launch} {e : Env} {s : State} {m : MethodId} {below : List Frame} {meth : Method} {c : Code} {b L : Nat} {xs : Nat → Int32} {E : pv_E} {a : Nat → Nat} {b0 b1 b2 b3 b4 b5 b6 b7 b8 b9 b10 : Nat} (C0 : lw_C p s m meth c b L xs E a b0 b1 b2 b3 b4 b5 b6 b7 b8 b9 b10) (hL : L ≤ 3072) (i : Nat) (hi : i + 6 ≤ L) (Q : State → Prop) (x x2 : pv_XT) (mm m2 : pv_MT) (r : Int32) (h1 : m_X6_months (xs (nI (i + 1)).toNatClampNeg) x = some (r, x2)) (h2 : m_X7_months (xs (nI (i + 1)).toNatClampNeg) mm = some (r, m2))
    (K : ∀ (H : Heap) (locs : List Loc) (ls : Array Slot), va_P E.1 vwCl (pv_wX E a x2) H → va_P E.1 vwCl (pv_wM E b0 b1 b2 b3 b4 b5 b6 b7 b8 b9 b10 m2) H → va_S (fun q : Nat => s.heap.size ≤ q) s.heap H locs → lv_has ls 4 [(0, .ref b), (1, .ref (a 0)), (2, .ref b0), (3, .int (nI i))] → W p l e room_1 s m #[Value.ref b] below meth c H locs 48 871 Q (F0 m 1446 ls [])) : ∀ (H : Heap) (locs : List Loc) (ls : Array Slot), va_P E.1 vwCl (pv_wX E a x) H → va_P E.1 vwCl (pv_wM E b0 b1 b2 b3 b4 b5 b6 b7 b8 b9 b10 mm) H → va_S (fun q : Nat => s.heap.size ≤ q) s.heap H locs → lv_has ls 4 [(0, .ref b), (1, .ref (a 0)), (2, .ref b0), (3, .int (nI i))] → W p l e room_1 s m #[Value.ref b] below meth c H locs 48 871 Q (F0 m 690 ls []) := by
  obtain ⟨hx, hb, hml, hown, hts, hX, hbl, hE, hDa, hDb, hXM⟩ := C0
  have hK := hE.1
  have hA : ∀ q : Nat, s.heap.size ≤ q → (fun q : Nat => s.heap.size ≤ q) q := fun _ h => h
  have hbA : ¬ (fun q : Nat => s.heap.size ≤ q) b := Nat.not_le.mpr hbl
  intro H locs ls hPa hPb hS hl
  refine lv_aload_n (pc := 690) hx hb dL_law_690 rfl (lv_at hl 1 rfl) ?_
  refine lv_aload_n (pc := 691) hx hb dL_law_691 rfl (lv_at hl 0 rfl) ?_
  refine lv_iload_n (pc := 692) hx hb dL_law_692 rfl (lv_at hl 3 rfl) ?_
  refine lv_iconst (pc := 693) (v := nI 1) hx hb dL_law_693 (by decide) ?_
  refine lv_iadd (pc := 694) hx hb dL_law_694 ?_
  refine W.eq (g2 := F0 m 695 ls [.int (nI (i + 1)), .ref b, .ref (a 0)]) (by rw [lw_i]) ?_
  refine va_sld (pc := 695) hx hb hX hbl hbA hS (vp_in_nI (by omega) (by omega)) dL_law_695 ?_
  refine pv_vRWk (pc := 696) (rest := []) (st1 := [.int r]) (ws := pv_wX E a x) (w1 := pv_wX E a x2) [.int (xs (nI (i + 1)).toNatClampNeg)] ⟨hx, hb, hml, hown, hts⟩ hE hA hS hPa (hDa x) (c_X6_months l E a (xs (nI (i + 1)).toNatClampNeg) x (r, x2) h1) (cwV 1 hts gL_law_X6_months rfl rfl rfl (by decide +kernel) ⟨(Nat.le_of_ble_eq_true rfl), (Nat.le_of_ble_eq_true rfl)⟩) (va_recv hK hPa (ci := 4) (q0 := 0) rfl rfl) rfl hl.1 rfl rfl (Nat.le_of_ble_eq_true rfl) dL_law_696 ⟨(Nat.le_of_ble_eq_true rfl), (Nat.le_of_ble_eq_true rfl)⟩ (fun H1 locs hP1 hk hS => ?_)
  have hPa := hP1
  have hPb := pv_frame hPb (hXM x mm) hk
  generalize H1 = H at hPa hPb hS ⊢
  refine lv_aload_n (pc := 699) hx hb dL_law_699 rfl (lv_at hl 2 rfl) ?_
  refine lv_aload_n (pc := 700) hx hb dL_law_700 rfl (lv_at hl 0 rfl) ?_
  refine lv_iload_n (pc := 701) hx hb dL_law_701 rfl (lv_at hl 3 rfl) ?_
  refine lv_iconst (pc := 702) (v := nI 1) hx hb dL_law_702 (by decide) ?_
  refine lv_iadd (pc := 703) hx hb dL_law_703 ?_
  refine W.eq (g2 := F0 m 704 ls [.int (nI (i + 1)), .ref b, .ref b0, .int r]) (by rw [lw_i]) ?_
  refine va_sld (pc := 704) hx hb hX hbl hbA hS (vp_in_nI (by omega) (by omega)) dL_law_704 ?_
  refine pv_vRWk (pc := 705) (rest := [.int r]) (st1 := [.int r, .int r]) (ws := pv_wM E b0 b1 b2 b3 b4 b5 b6 b7 b8 b9 b10 mm) (w1 := pv_wM E b0 b1 b2 b3 b4 b5 b6 b7 b8 b9 b10 m2) [.int (xs (nI (i + 1)).toNatClampNeg)] ⟨hx, hb, hml, hown, hts⟩ hE hA hS hPb (hDb mm) (c_X7_months l E b0 b1 b2 b3 b4 b5 b6 b7 b8 b9 b10 (xs (nI (i + 1)).toNatClampNeg) mm (r, m2) h2) (cwV 1 hts gL_law_X7_months rfl rfl rfl (by decide +kernel) ⟨(Nat.le_of_ble_eq_true rfl), (Nat.le_of_ble_eq_true rfl)⟩) (va_recv hK hPb (ci := 5) (q0 := 0) rfl rfl) rfl hl.1 rfl rfl (Nat.le_of_ble_eq_true rfl) dL_law_705 ⟨(Nat.le_of_ble_eq_true rfl), (Nat.le_of_ble_eq_true rfl)⟩ (fun H1 locs hP1 hk hS => ?_)
  have hPb := hP1
  have hPa := pv_frame hPa (fun i j p q hp hq e => hXM x2 mm j i q p hq hp e.symm) hk
  generalize H1 = H at hPa hPb hS ⊢
  refine lv_icmp_eq (pc := 708) (tgt := 1446) hx hb dL_law_708 (by decide) (fun _ => ?_) (fun c9 => absurd rfl c9)
  exact K H locs ls hPa hPb hS hl
set_option maxHeartbeats 4000000 in
set_option maxRecDepth 100000 in
theorem law_c17 {p : Program} {l : Launch} {e : Env} {s : State} {m : MethodId} {below : List Frame} {meth : Method} {c : Code} {b L : Nat} {xs : Nat → Int32} {E : pv_E} {a : Nat → Nat} {b0 b1 b2 b3 b4 b5 b6 b7 b8 b9 b10 : Nat} (C0 : lw_C p s m meth c b L xs E a b0 b1 b2 b3 b4 b5 b6 b7 b8 b9 b10) (hL : L ≤ 3072) (i : Nat) (hi : i + 6 ≤ L) (Q : State → Prop) (x x2 : pv_XT) (mm m2 : pv_MT) (r : Int32) (h1 : m_X6_on (xs (nI (i + 1)).toNatClampNeg) (xs (nI (i + 2)).toNatClampNeg) x = some (r, x2)) (h2 : m_X7_on (xs (nI (i + 1)).toNatClampNeg) (xs (nI (i + 2)).toNatClampNeg) mm = some (r, m2))
    (K : ∀ (H : Heap) (locs : List Loc) (ls : Array Slot), va_P E.1 vwCl (pv_wX E a x2) H → va_P E.1 vwCl (pv_wM E b0 b1 b2 b3 b4 b5 b6 b7 b8 b9 b10 m2) H → va_S (fun q : Nat => s.heap.size ≤ q) s.heap H locs → lv_has ls 4 [(0, .ref b), (1, .ref (a 0)), (2, .ref b0), (3, .int (nI i))] → W p l e room_1 s m #[Value.ref b] below meth c H locs 48 871 Q (F0 m 1446 ls [])) : ∀ (H : Heap) (locs : List Loc) (ls : Array Slot), va_P E.1 vwCl (pv_wX E a x) H → va_P E.1 vwCl (pv_wM E b0 b1 b2 b3 b4 b5 b6 b7 b8 b9 b10 mm) H → va_S (fun q : Nat => s.heap.size ≤ q) s.heap H locs → lv_has ls 4 [(0, .ref b), (1, .ref (a 0)), (2, .ref b0), (3, .int (nI i))] → W p l e room_1 s m #[Value.ref b] below meth c H locs 48 871 Q (F0 m 713 ls []) := by
  obtain ⟨hx, hb, hml, hown, hts, hX, hbl, hE, hDa, hDb, hXM⟩ := C0
  have hK := hE.1
  have hA : ∀ q : Nat, s.heap.size ≤ q → (fun q : Nat => s.heap.size ≤ q) q := fun _ h => h
  have hbA : ¬ (fun q : Nat => s.heap.size ≤ q) b := Nat.not_le.mpr hbl
  intro H locs ls hPa hPb hS hl
  refine lv_aload_n (pc := 713) hx hb dL_law_713 rfl (lv_at hl 1 rfl) ?_
  refine lv_aload_n (pc := 714) hx hb dL_law_714 rfl (lv_at hl 0 rfl) ?_
  refine lv_iload_n (pc := 715) hx hb dL_law_715 rfl (lv_at hl 3 rfl) ?_
  refine lv_iconst (pc := 716) (v := nI 1) hx hb dL_law_716 (by decide) ?_
  refine lv_iadd (pc := 717) hx hb dL_law_717 ?_
  refine W.eq (g2 := F0 m 718 ls [.int (nI (i + 1)), .ref b, .ref (a 0)]) (by rw [lw_i]) ?_
  refine va_sld (pc := 718) hx hb hX hbl hbA hS (vp_in_nI (by omega) (by omega)) dL_law_718 ?_
  refine lv_aload_n (pc := 719) hx hb dL_law_719 rfl (lv_at hl 0 rfl) ?_
  refine lv_iload_n (pc := 720) hx hb dL_law_720 rfl (lv_at hl 3 rfl) ?_
  refine lv_iconst (pc := 721) (v := nI 2) hx hb dL_law_721 (by decide) ?_
  refine lv_iadd (pc := 722) hx hb dL_law_722 ?_
  refine W.eq (g2 := F0 m 723 ls [.int (nI (i + 2)), .ref b, .int (xs (nI (i + 1)).toNatClampNeg), .ref (a 0)]) (by rw [lw_i]) ?_
  refine va_sld (pc := 723) hx hb hX hbl hbA hS (vp_in_nI (by omega) (by omega)) dL_law_723 ?_
  refine pv_vRWk (pc := 724) (rest := []) (st1 := [.int r]) (ws := pv_wX E a x) (w1 := pv_wX E a x2) [.int (xs (nI (i + 1)).toNatClampNeg), .int (xs (nI (i + 2)).toNatClampNeg)] ⟨hx, hb, hml, hown, hts⟩ hE hA hS hPa (hDa x) (c_X6_on l E a (xs (nI (i + 1)).toNatClampNeg) (xs (nI (i + 2)).toNatClampNeg) x (r, x2) h1) (cwV 2 hts gL_law_X6_on rfl rfl rfl (by decide +kernel) ⟨(Nat.le_of_ble_eq_true rfl), (Nat.le_of_ble_eq_true rfl)⟩) (va_recv hK hPa (ci := 4) (q0 := 0) rfl rfl) rfl hl.1 rfl rfl (Nat.le_of_ble_eq_true rfl) dL_law_724 ⟨(Nat.le_of_ble_eq_true rfl), (Nat.le_of_ble_eq_true rfl)⟩ (fun H1 locs hP1 hk hS => ?_)
  have hPa := hP1
  have hPb := pv_frame hPb (hXM x mm) hk
  generalize H1 = H at hPa hPb hS ⊢
  refine lv_aload_n (pc := 727) hx hb dL_law_727 rfl (lv_at hl 2 rfl) ?_
  refine lv_aload_n (pc := 728) hx hb dL_law_728 rfl (lv_at hl 0 rfl) ?_
  refine lv_iload_n (pc := 729) hx hb dL_law_729 rfl (lv_at hl 3 rfl) ?_
  refine lv_iconst (pc := 730) (v := nI 1) hx hb dL_law_730 (by decide) ?_
  refine lv_iadd (pc := 731) hx hb dL_law_731 ?_
  refine W.eq (g2 := F0 m 732 ls [.int (nI (i + 1)), .ref b, .ref b0, .int r]) (by rw [lw_i]) ?_
  refine va_sld (pc := 732) hx hb hX hbl hbA hS (vp_in_nI (by omega) (by omega)) dL_law_732 ?_
  refine lv_aload_n (pc := 733) hx hb dL_law_733 rfl (lv_at hl 0 rfl) ?_
  refine lv_iload_n (pc := 734) hx hb dL_law_734 rfl (lv_at hl 3 rfl) ?_
  refine lv_iconst (pc := 735) (v := nI 2) hx hb dL_law_735 (by decide) ?_
  refine lv_iadd (pc := 736) hx hb dL_law_736 ?_
  refine W.eq (g2 := F0 m 737 ls [.int (nI (i + 2)), .ref b, .int (xs (nI (i + 1)).toNatClampNeg), .ref b0, .int r]) (by rw [lw_i]) ?_
  refine va_sld (pc := 737) hx hb hX hbl hbA hS (vp_in_nI (by omega) (by omega)) dL_law_737 ?_
  refine pv_vRWk (pc := 738) (rest := [.int r]) (st1 := [.int r, .int r]) (ws := pv_wM E b0 b1 b2 b3 b4 b5 b6 b7 b8 b9 b10 mm) (w1 := pv_wM E b0 b1 b2 b3 b4 b5 b6 b7 b8 b9 b10 m2) [.int (xs (nI (i + 1)).toNatClampNeg), .int (xs (nI (i + 2)).toNatClampNeg)] ⟨hx, hb, hml, hown, hts⟩ hE hA hS hPb (hDb mm) (c_X7_on l E b0 b1 b2 b3 b4 b5 b6 b7 b8 b9 b10 (xs (nI (i + 1)).toNatClampNeg) (xs (nI (i + 2)).toNatClampNeg) mm (r, m2) h2) (cwV 2 hts gL_law_X7_on rfl rfl rfl (by decide +kernel) ⟨(Nat.le_of_ble_eq_true rfl), (Nat.le_of_ble_eq_true rfl)⟩) (va_recv hK hPb (ci := 5) (q0 := 0) rfl rfl) rfl hl.1 rfl rfl (Nat.le_of_ble_eq_true rfl) dL_law_738 ⟨(Nat.le_of_ble_eq_true rfl), (Nat.le_of_ble_eq_true rfl)⟩ (fun H1 locs hP1 hk hS => ?_)
  have hPb := hP1
  have hPa := pv_frame hPa (fun i j p q hp hq e => hXM x2 mm j i q p hq hp e.symm) hk
  generalize H1 = H at hPa hPb hS ⊢
  refine lv_icmp_eq (pc := 741) (tgt := 1446) hx hb dL_law_741 (by decide) (fun _ => ?_) (fun c9 => absurd rfl c9)
  exact K H locs ls hPa hPb hS hl
set_option maxHeartbeats 4000000 in
set_option maxRecDepth 100000 in
theorem law_c18 {p : Program} {l : Launch} {e : Env} {s : State} {m : MethodId} {below : List Frame} {meth : Method} {c : Code} {b L : Nat} {xs : Nat → Int32} {E : pv_E} {a : Nat → Nat} {b0 b1 b2 b3 b4 b5 b6 b7 b8 b9 b10 : Nat} (C0 : lw_C p s m meth c b L xs E a b0 b1 b2 b3 b4 b5 b6 b7 b8 b9 b10) (hL : L ≤ 3072) (i : Nat) (hi : i + 6 ≤ L) (Q : State → Prop) (x x2 : pv_XT) (mm m2 : pv_MT) (r : Int32) (h1 : m_X6_then (xs (nI (i + 1)).toNatClampNeg) (xs (nI (i + 2)).toNatClampNeg) (xs (nI (i + 3)).toNatClampNeg) x = some (r, x2)) (h2 : m_X7_then (xs (nI (i + 1)).toNatClampNeg) (xs (nI (i + 2)).toNatClampNeg) (xs (nI (i + 3)).toNatClampNeg) mm = some (r, m2))
    (K : ∀ (H : Heap) (locs : List Loc) (ls : Array Slot), va_P E.1 vwCl (pv_wX E a x2) H → va_P E.1 vwCl (pv_wM E b0 b1 b2 b3 b4 b5 b6 b7 b8 b9 b10 m2) H → va_S (fun q : Nat => s.heap.size ≤ q) s.heap H locs → lv_has ls 4 [(0, .ref b), (1, .ref (a 0)), (2, .ref b0), (3, .int (nI i))] → W p l e room_1 s m #[Value.ref b] below meth c H locs 48 871 Q (F0 m 1446 ls [])) : ∀ (H : Heap) (locs : List Loc) (ls : Array Slot), va_P E.1 vwCl (pv_wX E a x) H → va_P E.1 vwCl (pv_wM E b0 b1 b2 b3 b4 b5 b6 b7 b8 b9 b10 mm) H → va_S (fun q : Nat => s.heap.size ≤ q) s.heap H locs → lv_has ls 4 [(0, .ref b), (1, .ref (a 0)), (2, .ref b0), (3, .int (nI i))] → W p l e room_1 s m #[Value.ref b] below meth c H locs 48 871 Q (F0 m 746 ls []) := by
  obtain ⟨hx, hb, hml, hown, hts, hX, hbl, hE, hDa, hDb, hXM⟩ := C0
  have hK := hE.1
  have hA : ∀ q : Nat, s.heap.size ≤ q → (fun q : Nat => s.heap.size ≤ q) q := fun _ h => h
  have hbA : ¬ (fun q : Nat => s.heap.size ≤ q) b := Nat.not_le.mpr hbl
  intro H locs ls hPa hPb hS hl
  refine lv_aload_n (pc := 746) hx hb dL_law_746 rfl (lv_at hl 1 rfl) ?_
  refine lv_aload_n (pc := 747) hx hb dL_law_747 rfl (lv_at hl 0 rfl) ?_
  refine lv_iload_n (pc := 748) hx hb dL_law_748 rfl (lv_at hl 3 rfl) ?_
  refine lv_iconst (pc := 749) (v := nI 1) hx hb dL_law_749 (by decide) ?_
  refine lv_iadd (pc := 750) hx hb dL_law_750 ?_
  refine W.eq (g2 := F0 m 751 ls [.int (nI (i + 1)), .ref b, .ref (a 0)]) (by rw [lw_i]) ?_
  refine va_sld (pc := 751) hx hb hX hbl hbA hS (vp_in_nI (by omega) (by omega)) dL_law_751 ?_
  refine lv_aload_n (pc := 752) hx hb dL_law_752 rfl (lv_at hl 0 rfl) ?_
  refine lv_iload_n (pc := 753) hx hb dL_law_753 rfl (lv_at hl 3 rfl) ?_
  refine lv_iconst (pc := 754) (v := nI 2) hx hb dL_law_754 (by decide) ?_
  refine lv_iadd (pc := 755) hx hb dL_law_755 ?_
  refine W.eq (g2 := F0 m 756 ls [.int (nI (i + 2)), .ref b, .int (xs (nI (i + 1)).toNatClampNeg), .ref (a 0)]) (by rw [lw_i]) ?_
  refine va_sld (pc := 756) hx hb hX hbl hbA hS (vp_in_nI (by omega) (by omega)) dL_law_756 ?_
  refine lv_aload_n (pc := 757) hx hb dL_law_757 rfl (lv_at hl 0 rfl) ?_
  refine lv_iload_n (pc := 758) hx hb dL_law_758 rfl (lv_at hl 3 rfl) ?_
  refine lv_iconst (pc := 759) (v := nI 3) hx hb dL_law_759 (by decide) ?_
  refine lv_iadd (pc := 760) hx hb dL_law_760 ?_
  refine W.eq (g2 := F0 m 761 ls [.int (nI (i + 3)), .ref b, .int (xs (nI (i + 2)).toNatClampNeg), .int (xs (nI (i + 1)).toNatClampNeg), .ref (a 0)]) (by rw [lw_i]) ?_
  refine va_sld (pc := 761) hx hb hX hbl hbA hS (vp_in_nI (by omega) (by omega)) dL_law_761 ?_
  refine pv_vRWk (pc := 762) (rest := []) (st1 := [.int r]) (ws := pv_wX E a x) (w1 := pv_wX E a x2) [.int (xs (nI (i + 1)).toNatClampNeg), .int (xs (nI (i + 2)).toNatClampNeg), .int (xs (nI (i + 3)).toNatClampNeg)] ⟨hx, hb, hml, hown, hts⟩ hE hA hS hPa (hDa x) (c_X6_then l E a (xs (nI (i + 1)).toNatClampNeg) (xs (nI (i + 2)).toNatClampNeg) (xs (nI (i + 3)).toNatClampNeg) x (r, x2) h1) (cwV 3 hts gL_law_X6_then rfl rfl rfl (by decide +kernel) ⟨(Nat.le_of_ble_eq_true rfl), (Nat.le_of_ble_eq_true rfl)⟩) (va_recv hK hPa (ci := 4) (q0 := 0) rfl rfl) rfl hl.1 rfl rfl (Nat.le_of_ble_eq_true rfl) dL_law_762 ⟨(Nat.le_of_ble_eq_true rfl), (Nat.le_of_ble_eq_true rfl)⟩ (fun H1 locs hP1 hk hS => ?_)
  have hPa := hP1
  have hPb := pv_frame hPb (hXM x mm) hk
  generalize H1 = H at hPa hPb hS ⊢
  refine lv_aload_n (pc := 765) hx hb dL_law_765 rfl (lv_at hl 2 rfl) ?_
  refine lv_aload_n (pc := 766) hx hb dL_law_766 rfl (lv_at hl 0 rfl) ?_
  refine lv_iload_n (pc := 767) hx hb dL_law_767 rfl (lv_at hl 3 rfl) ?_
  refine lv_iconst (pc := 768) (v := nI 1) hx hb dL_law_768 (by decide) ?_
  refine lv_iadd (pc := 769) hx hb dL_law_769 ?_
  refine W.eq (g2 := F0 m 770 ls [.int (nI (i + 1)), .ref b, .ref b0, .int r]) (by rw [lw_i]) ?_
  refine va_sld (pc := 770) hx hb hX hbl hbA hS (vp_in_nI (by omega) (by omega)) dL_law_770 ?_
  refine lv_aload_n (pc := 771) hx hb dL_law_771 rfl (lv_at hl 0 rfl) ?_
  refine lv_iload_n (pc := 772) hx hb dL_law_772 rfl (lv_at hl 3 rfl) ?_
  refine lv_iconst (pc := 773) (v := nI 2) hx hb dL_law_773 (by decide) ?_
  refine lv_iadd (pc := 774) hx hb dL_law_774 ?_
  refine W.eq (g2 := F0 m 775 ls [.int (nI (i + 2)), .ref b, .int (xs (nI (i + 1)).toNatClampNeg), .ref b0, .int r]) (by rw [lw_i]) ?_
  refine va_sld (pc := 775) hx hb hX hbl hbA hS (vp_in_nI (by omega) (by omega)) dL_law_775 ?_
  refine lv_aload_n (pc := 776) hx hb dL_law_776 rfl (lv_at hl 0 rfl) ?_
  refine lv_iload_n (pc := 777) hx hb dL_law_777 rfl (lv_at hl 3 rfl) ?_
  refine lv_iconst (pc := 778) (v := nI 3) hx hb dL_law_778 (by decide) ?_
  refine lv_iadd (pc := 779) hx hb dL_law_779 ?_
  refine W.eq (g2 := F0 m 780 ls [.int (nI (i + 3)), .ref b, .int (xs (nI (i + 2)).toNatClampNeg), .int (xs (nI (i + 1)).toNatClampNeg), .ref b0, .int r]) (by rw [lw_i]) ?_
  refine va_sld (pc := 780) hx hb hX hbl hbA hS (vp_in_nI (by omega) (by omega)) dL_law_780 ?_
  refine pv_vRWk (pc := 781) (rest := [.int r]) (st1 := [.int r, .int r]) (ws := pv_wM E b0 b1 b2 b3 b4 b5 b6 b7 b8 b9 b10 mm) (w1 := pv_wM E b0 b1 b2 b3 b4 b5 b6 b7 b8 b9 b10 m2) [.int (xs (nI (i + 1)).toNatClampNeg), .int (xs (nI (i + 2)).toNatClampNeg), .int (xs (nI (i + 3)).toNatClampNeg)] ⟨hx, hb, hml, hown, hts⟩ hE hA hS hPb (hDb mm) (c_X7_then l E b0 b1 b2 b3 b4 b5 b6 b7 b8 b9 b10 (xs (nI (i + 1)).toNatClampNeg) (xs (nI (i + 2)).toNatClampNeg) (xs (nI (i + 3)).toNatClampNeg) mm (r, m2) h2) (cwV 3 hts gL_law_X7_then rfl rfl rfl (by decide +kernel) ⟨(Nat.le_of_ble_eq_true rfl), (Nat.le_of_ble_eq_true rfl)⟩) (va_recv hK hPb (ci := 5) (q0 := 0) rfl rfl) rfl hl.1 rfl rfl (Nat.le_of_ble_eq_true rfl) dL_law_781 ⟨(Nat.le_of_ble_eq_true rfl), (Nat.le_of_ble_eq_true rfl)⟩ (fun H1 locs hP1 hk hS => ?_)
  have hPb := hP1
  have hPa := pv_frame hPa (fun i j p q hp hq e => hXM x2 mm j i q p hq hp e.symm) hk
  generalize H1 = H at hPa hPb hS ⊢
  refine lv_icmp_eq (pc := 784) (tgt := 1446) hx hb dL_law_784 (by decide) (fun _ => ?_) (fun c9 => absurd rfl c9)
  exact K H locs ls hPa hPb hS hl
set_option maxHeartbeats 4000000 in
set_option maxRecDepth 100000 in
theorem law_c19 {p : Program} {l : Launch} {e : Env} {s : State} {m : MethodId} {below : List Frame} {meth : Method} {c : Code} {b L : Nat} {xs : Nat → Int32} {E : pv_E} {a : Nat → Nat} {b0 b1 b2 b3 b4 b5 b6 b7 b8 b9 b10 : Nat} (C0 : lw_C p s m meth c b L xs E a b0 b1 b2 b3 b4 b5 b6 b7 b8 b9 b10) (hL : L ≤ 3072) (i : Nat) (hi : i + 6 ≤ L) (Q : State → Prop) (x x2 : pv_XT) (mm m2 : pv_MT) (r : Int32) (h1 : m_X6_when (xs (nI (i + 1)).toNatClampNeg) (xs (nI (i + 2)).toNatClampNeg) x = some (r, x2)) (h2 : m_X7_when (xs (nI (i + 1)).toNatClampNeg) (xs (nI (i + 2)).toNatClampNeg) mm = some (r, m2))
    (K : ∀ (H : Heap) (locs : List Loc) (ls : Array Slot), va_P E.1 vwCl (pv_wX E a x2) H → va_P E.1 vwCl (pv_wM E b0 b1 b2 b3 b4 b5 b6 b7 b8 b9 b10 m2) H → va_S (fun q : Nat => s.heap.size ≤ q) s.heap H locs → lv_has ls 4 [(0, .ref b), (1, .ref (a 0)), (2, .ref b0), (3, .int (nI i))] → W p l e room_1 s m #[Value.ref b] below meth c H locs 48 871 Q (F0 m 1446 ls [])) : ∀ (H : Heap) (locs : List Loc) (ls : Array Slot), va_P E.1 vwCl (pv_wX E a x) H → va_P E.1 vwCl (pv_wM E b0 b1 b2 b3 b4 b5 b6 b7 b8 b9 b10 mm) H → va_S (fun q : Nat => s.heap.size ≤ q) s.heap H locs → lv_has ls 4 [(0, .ref b), (1, .ref (a 0)), (2, .ref b0), (3, .int (nI i))] → W p l e room_1 s m #[Value.ref b] below meth c H locs 48 871 Q (F0 m 789 ls []) := by
  obtain ⟨hx, hb, hml, hown, hts, hX, hbl, hE, hDa, hDb, hXM⟩ := C0
  have hK := hE.1
  have hA : ∀ q : Nat, s.heap.size ≤ q → (fun q : Nat => s.heap.size ≤ q) q := fun _ h => h
  have hbA : ¬ (fun q : Nat => s.heap.size ≤ q) b := Nat.not_le.mpr hbl
  intro H locs ls hPa hPb hS hl
  refine lv_aload_n (pc := 789) hx hb dL_law_789 rfl (lv_at hl 1 rfl) ?_
  refine lv_aload_n (pc := 790) hx hb dL_law_790 rfl (lv_at hl 0 rfl) ?_
  refine lv_iload_n (pc := 791) hx hb dL_law_791 rfl (lv_at hl 3 rfl) ?_
  refine lv_iconst (pc := 792) (v := nI 1) hx hb dL_law_792 (by decide) ?_
  refine lv_iadd (pc := 793) hx hb dL_law_793 ?_
  refine W.eq (g2 := F0 m 794 ls [.int (nI (i + 1)), .ref b, .ref (a 0)]) (by rw [lw_i]) ?_
  refine va_sld (pc := 794) hx hb hX hbl hbA hS (vp_in_nI (by omega) (by omega)) dL_law_794 ?_
  refine lv_aload_n (pc := 795) hx hb dL_law_795 rfl (lv_at hl 0 rfl) ?_
  refine lv_iload_n (pc := 796) hx hb dL_law_796 rfl (lv_at hl 3 rfl) ?_
  refine lv_iconst (pc := 797) (v := nI 2) hx hb dL_law_797 (by decide) ?_
  refine lv_iadd (pc := 798) hx hb dL_law_798 ?_
  refine W.eq (g2 := F0 m 799 ls [.int (nI (i + 2)), .ref b, .int (xs (nI (i + 1)).toNatClampNeg), .ref (a 0)]) (by rw [lw_i]) ?_
  refine va_sld (pc := 799) hx hb hX hbl hbA hS (vp_in_nI (by omega) (by omega)) dL_law_799 ?_
  refine pv_vRWk (pc := 800) (rest := []) (st1 := [.int r]) (ws := pv_wX E a x) (w1 := pv_wX E a x2) [.int (xs (nI (i + 1)).toNatClampNeg), .int (xs (nI (i + 2)).toNatClampNeg)] ⟨hx, hb, hml, hown, hts⟩ hE hA hS hPa (hDa x) (c_X6_when l E a (xs (nI (i + 1)).toNatClampNeg) (xs (nI (i + 2)).toNatClampNeg) x (r, x2) h1) (cwV 2 hts gL_law_X6_when rfl rfl rfl (by decide +kernel) ⟨(Nat.le_of_ble_eq_true rfl), (Nat.le_of_ble_eq_true rfl)⟩) (va_recv hK hPa (ci := 4) (q0 := 0) rfl rfl) rfl hl.1 rfl rfl (Nat.le_of_ble_eq_true rfl) dL_law_800 ⟨(Nat.le_of_ble_eq_true rfl), (Nat.le_of_ble_eq_true rfl)⟩ (fun H1 locs hP1 hk hS => ?_)
  have hPa := hP1
  have hPb := pv_frame hPb (hXM x mm) hk
  generalize H1 = H at hPa hPb hS ⊢
  refine lv_aload_n (pc := 803) hx hb dL_law_803 rfl (lv_at hl 2 rfl) ?_
  refine lv_aload_n (pc := 804) hx hb dL_law_804 rfl (lv_at hl 0 rfl) ?_
  refine lv_iload_n (pc := 805) hx hb dL_law_805 rfl (lv_at hl 3 rfl) ?_
  refine lv_iconst (pc := 806) (v := nI 1) hx hb dL_law_806 (by decide) ?_
  refine lv_iadd (pc := 807) hx hb dL_law_807 ?_
  refine W.eq (g2 := F0 m 808 ls [.int (nI (i + 1)), .ref b, .ref b0, .int r]) (by rw [lw_i]) ?_
  refine va_sld (pc := 808) hx hb hX hbl hbA hS (vp_in_nI (by omega) (by omega)) dL_law_808 ?_
  refine lv_aload_n (pc := 809) hx hb dL_law_809 rfl (lv_at hl 0 rfl) ?_
  refine lv_iload_n (pc := 810) hx hb dL_law_810 rfl (lv_at hl 3 rfl) ?_
  refine lv_iconst (pc := 811) (v := nI 2) hx hb dL_law_811 (by decide) ?_
  refine lv_iadd (pc := 812) hx hb dL_law_812 ?_
  refine W.eq (g2 := F0 m 813 ls [.int (nI (i + 2)), .ref b, .int (xs (nI (i + 1)).toNatClampNeg), .ref b0, .int r]) (by rw [lw_i]) ?_
  refine va_sld (pc := 813) hx hb hX hbl hbA hS (vp_in_nI (by omega) (by omega)) dL_law_813 ?_
  refine pv_vRWk (pc := 814) (rest := [.int r]) (st1 := [.int r, .int r]) (ws := pv_wM E b0 b1 b2 b3 b4 b5 b6 b7 b8 b9 b10 mm) (w1 := pv_wM E b0 b1 b2 b3 b4 b5 b6 b7 b8 b9 b10 m2) [.int (xs (nI (i + 1)).toNatClampNeg), .int (xs (nI (i + 2)).toNatClampNeg)] ⟨hx, hb, hml, hown, hts⟩ hE hA hS hPb (hDb mm) (c_X7_when l E b0 b1 b2 b3 b4 b5 b6 b7 b8 b9 b10 (xs (nI (i + 1)).toNatClampNeg) (xs (nI (i + 2)).toNatClampNeg) mm (r, m2) h2) (cwV 2 hts gL_law_X7_when rfl rfl rfl (by decide +kernel) ⟨(Nat.le_of_ble_eq_true rfl), (Nat.le_of_ble_eq_true rfl)⟩) (va_recv hK hPb (ci := 5) (q0 := 0) rfl rfl) rfl hl.1 rfl rfl (Nat.le_of_ble_eq_true rfl) dL_law_814 ⟨(Nat.le_of_ble_eq_true rfl), (Nat.le_of_ble_eq_true rfl)⟩ (fun H1 locs hP1 hk hS => ?_)
  have hPb := hP1
  have hPa := pv_frame hPa (fun i j p q hp hq e => hXM x2 mm j i q p hq hp e.symm) hk
  generalize H1 = H at hPa hPb hS ⊢
  refine lv_icmp_eq (pc := 817) (tgt := 1446) hx hb dL_law_817 (by decide) (fun _ => ?_) (fun c9 => absurd rfl c9)
  exact K H locs ls hPa hPb hS hl
set_option maxHeartbeats 4000000 in
set_option maxRecDepth 100000 in
theorem law_c20 {p : Program} {l : Launch} {e : Env} {s : State} {m : MethodId} {below : List Frame} {meth : Method} {c : Code} {b L : Nat} {xs : Nat → Int32} {E : pv_E} {a : Nat → Nat} {b0 b1 b2 b3 b4 b5 b6 b7 b8 b9 b10 : Nat} (C0 : lw_C p s m meth c b L xs E a b0 b1 b2 b3 b4 b5 b6 b7 b8 b9 b10) (hL : L ≤ 3072) (i : Nat) (hi : i + 6 ≤ L) (Q : State → Prop) (x x2 : pv_XT) (mm m2 : pv_MT) (r : Int32) (h1 : m_X6_all (xs (nI (i + 1)).toNatClampNeg) x = some (r, x2)) (h2 : m_X7_all (xs (nI (i + 1)).toNatClampNeg) mm = some (r, m2))
    (K : ∀ (H : Heap) (locs : List Loc) (ls : Array Slot), va_P E.1 vwCl (pv_wX E a x2) H → va_P E.1 vwCl (pv_wM E b0 b1 b2 b3 b4 b5 b6 b7 b8 b9 b10 m2) H → va_S (fun q : Nat => s.heap.size ≤ q) s.heap H locs → lv_has ls 4 [(0, .ref b), (1, .ref (a 0)), (2, .ref b0), (3, .int (nI i))] → W p l e room_1 s m #[Value.ref b] below meth c H locs 48 871 Q (F0 m 1446 ls [])) : ∀ (H : Heap) (locs : List Loc) (ls : Array Slot), va_P E.1 vwCl (pv_wX E a x) H → va_P E.1 vwCl (pv_wM E b0 b1 b2 b3 b4 b5 b6 b7 b8 b9 b10 mm) H → va_S (fun q : Nat => s.heap.size ≤ q) s.heap H locs → lv_has ls 4 [(0, .ref b), (1, .ref (a 0)), (2, .ref b0), (3, .int (nI i))] → W p l e room_1 s m #[Value.ref b] below meth c H locs 48 871 Q (F0 m 822 ls []) := by
  obtain ⟨hx, hb, hml, hown, hts, hX, hbl, hE, hDa, hDb, hXM⟩ := C0
  have hK := hE.1
  have hA : ∀ q : Nat, s.heap.size ≤ q → (fun q : Nat => s.heap.size ≤ q) q := fun _ h => h
  have hbA : ¬ (fun q : Nat => s.heap.size ≤ q) b := Nat.not_le.mpr hbl
  intro H locs ls hPa hPb hS hl
  refine lv_aload_n (pc := 822) hx hb dL_law_822 rfl (lv_at hl 1 rfl) ?_
  refine lv_aload_n (pc := 823) hx hb dL_law_823 rfl (lv_at hl 0 rfl) ?_
  refine lv_iload_n (pc := 824) hx hb dL_law_824 rfl (lv_at hl 3 rfl) ?_
  refine lv_iconst (pc := 825) (v := nI 1) hx hb dL_law_825 (by decide) ?_
  refine lv_iadd (pc := 826) hx hb dL_law_826 ?_
  refine W.eq (g2 := F0 m 827 ls [.int (nI (i + 1)), .ref b, .ref (a 0)]) (by rw [lw_i]) ?_
  refine va_sld (pc := 827) hx hb hX hbl hbA hS (vp_in_nI (by omega) (by omega)) dL_law_827 ?_
  refine pv_vRWk (pc := 828) (rest := []) (st1 := [.int r]) (ws := pv_wX E a x) (w1 := pv_wX E a x2) [.int (xs (nI (i + 1)).toNatClampNeg)] ⟨hx, hb, hml, hown, hts⟩ hE hA hS hPa (hDa x) (c_X6_all l E a (xs (nI (i + 1)).toNatClampNeg) x (r, x2) h1) (cwV 1 hts gL_law_X6_all rfl rfl rfl (by decide +kernel) ⟨(Nat.le_of_ble_eq_true rfl), (Nat.le_of_ble_eq_true rfl)⟩) (va_recv hK hPa (ci := 4) (q0 := 0) rfl rfl) rfl hl.1 rfl rfl (Nat.le_of_ble_eq_true rfl) dL_law_828 ⟨(Nat.le_of_ble_eq_true rfl), (Nat.le_of_ble_eq_true rfl)⟩ (fun H1 locs hP1 hk hS => ?_)
  have hPa := hP1
  have hPb := pv_frame hPb (hXM x mm) hk
  generalize H1 = H at hPa hPb hS ⊢
  refine lv_aload_n (pc := 831) hx hb dL_law_831 rfl (lv_at hl 2 rfl) ?_
  refine lv_aload_n (pc := 832) hx hb dL_law_832 rfl (lv_at hl 0 rfl) ?_
  refine lv_iload_n (pc := 833) hx hb dL_law_833 rfl (lv_at hl 3 rfl) ?_
  refine lv_iconst (pc := 834) (v := nI 1) hx hb dL_law_834 (by decide) ?_
  refine lv_iadd (pc := 835) hx hb dL_law_835 ?_
  refine W.eq (g2 := F0 m 836 ls [.int (nI (i + 1)), .ref b, .ref b0, .int r]) (by rw [lw_i]) ?_
  refine va_sld (pc := 836) hx hb hX hbl hbA hS (vp_in_nI (by omega) (by omega)) dL_law_836 ?_
  refine pv_vRWk (pc := 837) (rest := [.int r]) (st1 := [.int r, .int r]) (ws := pv_wM E b0 b1 b2 b3 b4 b5 b6 b7 b8 b9 b10 mm) (w1 := pv_wM E b0 b1 b2 b3 b4 b5 b6 b7 b8 b9 b10 m2) [.int (xs (nI (i + 1)).toNatClampNeg)] ⟨hx, hb, hml, hown, hts⟩ hE hA hS hPb (hDb mm) (c_X7_all l E b0 b1 b2 b3 b4 b5 b6 b7 b8 b9 b10 (xs (nI (i + 1)).toNatClampNeg) mm (r, m2) h2) (cwV 1 hts gL_law_X7_all rfl rfl rfl (by decide +kernel) ⟨(Nat.le_of_ble_eq_true rfl), (Nat.le_of_ble_eq_true rfl)⟩) (va_recv hK hPb (ci := 5) (q0 := 0) rfl rfl) rfl hl.1 rfl rfl (Nat.le_of_ble_eq_true rfl) dL_law_837 ⟨(Nat.le_of_ble_eq_true rfl), (Nat.le_of_ble_eq_true rfl)⟩ (fun H1 locs hP1 hk hS => ?_)
  have hPb := hP1
  have hPa := pv_frame hPa (fun i j p q hp hq e => hXM x2 mm j i q p hq hp e.symm) hk
  generalize H1 = H at hPa hPb hS ⊢
  refine lv_icmp_eq (pc := 840) (tgt := 1446) hx hb dL_law_840 (by decide) (fun _ => ?_) (fun c9 => absurd rfl c9)
  exact K H locs ls hPa hPb hS hl
set_option maxHeartbeats 4000000 in
set_option maxRecDepth 100000 in
theorem law_c21 {p : Program} {l : Launch} {e : Env} {s : State} {m : MethodId} {below : List Frame} {meth : Method} {c : Code} {b L : Nat} {xs : Nat → Int32} {E : pv_E} {a : Nat → Nat} {b0 b1 b2 b3 b4 b5 b6 b7 b8 b9 b10 : Nat} (C0 : lw_C p s m meth c b L xs E a b0 b1 b2 b3 b4 b5 b6 b7 b8 b9 b10) (hL : L ≤ 3072) (i : Nat) (hi : i + 6 ≤ L) (Q : State → Prop) (x x2 : pv_XT) (mm m2 : pv_MT) (r : Int32) (h1 : m_X6_best (xs (nI (i + 1)).toNatClampNeg) (xs (nI (i + 2)).toNatClampNeg) x = some (r, x2)) (h2 : m_X7_best (xs (nI (i + 1)).toNatClampNeg) (xs (nI (i + 2)).toNatClampNeg) mm = some (r, m2))
    (K : ∀ (H : Heap) (locs : List Loc) (ls : Array Slot), va_P E.1 vwCl (pv_wX E a x2) H → va_P E.1 vwCl (pv_wM E b0 b1 b2 b3 b4 b5 b6 b7 b8 b9 b10 m2) H → va_S (fun q : Nat => s.heap.size ≤ q) s.heap H locs → lv_has ls 4 [(0, .ref b), (1, .ref (a 0)), (2, .ref b0), (3, .int (nI i))] → W p l e room_1 s m #[Value.ref b] below meth c H locs 48 871 Q (F0 m 1446 ls [])) : ∀ (H : Heap) (locs : List Loc) (ls : Array Slot), va_P E.1 vwCl (pv_wX E a x) H → va_P E.1 vwCl (pv_wM E b0 b1 b2 b3 b4 b5 b6 b7 b8 b9 b10 mm) H → va_S (fun q : Nat => s.heap.size ≤ q) s.heap H locs → lv_has ls 4 [(0, .ref b), (1, .ref (a 0)), (2, .ref b0), (3, .int (nI i))] → W p l e room_1 s m #[Value.ref b] below meth c H locs 48 871 Q (F0 m 845 ls []) := by
  obtain ⟨hx, hb, hml, hown, hts, hX, hbl, hE, hDa, hDb, hXM⟩ := C0
  have hK := hE.1
  have hA : ∀ q : Nat, s.heap.size ≤ q → (fun q : Nat => s.heap.size ≤ q) q := fun _ h => h
  have hbA : ¬ (fun q : Nat => s.heap.size ≤ q) b := Nat.not_le.mpr hbl
  intro H locs ls hPa hPb hS hl
  refine lv_aload_n (pc := 845) hx hb dL_law_845 rfl (lv_at hl 1 rfl) ?_
  refine lv_aload_n (pc := 846) hx hb dL_law_846 rfl (lv_at hl 0 rfl) ?_
  refine lv_iload_n (pc := 847) hx hb dL_law_847 rfl (lv_at hl 3 rfl) ?_
  refine lv_iconst (pc := 848) (v := nI 1) hx hb dL_law_848 (by decide) ?_
  refine lv_iadd (pc := 849) hx hb dL_law_849 ?_
  refine W.eq (g2 := F0 m 850 ls [.int (nI (i + 1)), .ref b, .ref (a 0)]) (by rw [lw_i]) ?_
  refine va_sld (pc := 850) hx hb hX hbl hbA hS (vp_in_nI (by omega) (by omega)) dL_law_850 ?_
  refine lv_aload_n (pc := 851) hx hb dL_law_851 rfl (lv_at hl 0 rfl) ?_
  refine lv_iload_n (pc := 852) hx hb dL_law_852 rfl (lv_at hl 3 rfl) ?_
  refine lv_iconst (pc := 853) (v := nI 2) hx hb dL_law_853 (by decide) ?_
  refine lv_iadd (pc := 854) hx hb dL_law_854 ?_
  refine W.eq (g2 := F0 m 855 ls [.int (nI (i + 2)), .ref b, .int (xs (nI (i + 1)).toNatClampNeg), .ref (a 0)]) (by rw [lw_i]) ?_
  refine va_sld (pc := 855) hx hb hX hbl hbA hS (vp_in_nI (by omega) (by omega)) dL_law_855 ?_
  refine pv_vRWk (pc := 856) (rest := []) (st1 := [.int r]) (ws := pv_wX E a x) (w1 := pv_wX E a x2) [.int (xs (nI (i + 1)).toNatClampNeg), .int (xs (nI (i + 2)).toNatClampNeg)] ⟨hx, hb, hml, hown, hts⟩ hE hA hS hPa (hDa x) (c_X6_best l E a (xs (nI (i + 1)).toNatClampNeg) (xs (nI (i + 2)).toNatClampNeg) x (r, x2) h1) (cwV 2 hts gL_law_X6_best rfl rfl rfl (by decide +kernel) ⟨(Nat.le_of_ble_eq_true rfl), (Nat.le_of_ble_eq_true rfl)⟩) (va_recv hK hPa (ci := 4) (q0 := 0) rfl rfl) rfl hl.1 rfl rfl (Nat.le_of_ble_eq_true rfl) dL_law_856 ⟨(Nat.le_of_ble_eq_true rfl), (Nat.le_of_ble_eq_true rfl)⟩ (fun H1 locs hP1 hk hS => ?_)
  have hPa := hP1
  have hPb := pv_frame hPb (hXM x mm) hk
  generalize H1 = H at hPa hPb hS ⊢
  refine lv_aload_n (pc := 859) hx hb dL_law_859 rfl (lv_at hl 2 rfl) ?_
  refine lv_aload_n (pc := 860) hx hb dL_law_860 rfl (lv_at hl 0 rfl) ?_
  refine lv_iload_n (pc := 861) hx hb dL_law_861 rfl (lv_at hl 3 rfl) ?_
  refine lv_iconst (pc := 862) (v := nI 1) hx hb dL_law_862 (by decide) ?_
  refine lv_iadd (pc := 863) hx hb dL_law_863 ?_
  refine W.eq (g2 := F0 m 864 ls [.int (nI (i + 1)), .ref b, .ref b0, .int r]) (by rw [lw_i]) ?_
  refine va_sld (pc := 864) hx hb hX hbl hbA hS (vp_in_nI (by omega) (by omega)) dL_law_864 ?_
  refine lv_aload_n (pc := 865) hx hb dL_law_865 rfl (lv_at hl 0 rfl) ?_
  refine lv_iload_n (pc := 866) hx hb dL_law_866 rfl (lv_at hl 3 rfl) ?_
  refine lv_iconst (pc := 867) (v := nI 2) hx hb dL_law_867 (by decide) ?_
  refine lv_iadd (pc := 868) hx hb dL_law_868 ?_
  refine W.eq (g2 := F0 m 869 ls [.int (nI (i + 2)), .ref b, .int (xs (nI (i + 1)).toNatClampNeg), .ref b0, .int r]) (by rw [lw_i]) ?_
  refine va_sld (pc := 869) hx hb hX hbl hbA hS (vp_in_nI (by omega) (by omega)) dL_law_869 ?_
  refine pv_vRWk (pc := 870) (rest := [.int r]) (st1 := [.int r, .int r]) (ws := pv_wM E b0 b1 b2 b3 b4 b5 b6 b7 b8 b9 b10 mm) (w1 := pv_wM E b0 b1 b2 b3 b4 b5 b6 b7 b8 b9 b10 m2) [.int (xs (nI (i + 1)).toNatClampNeg), .int (xs (nI (i + 2)).toNatClampNeg)] ⟨hx, hb, hml, hown, hts⟩ hE hA hS hPb (hDb mm) (c_X7_best l E b0 b1 b2 b3 b4 b5 b6 b7 b8 b9 b10 (xs (nI (i + 1)).toNatClampNeg) (xs (nI (i + 2)).toNatClampNeg) mm (r, m2) h2) (cwV 2 hts gL_law_X7_best rfl rfl rfl (by decide +kernel) ⟨(Nat.le_of_ble_eq_true rfl), (Nat.le_of_ble_eq_true rfl)⟩) (va_recv hK hPb (ci := 5) (q0 := 0) rfl rfl) rfl hl.1 rfl rfl (Nat.le_of_ble_eq_true rfl) dL_law_870 ⟨(Nat.le_of_ble_eq_true rfl), (Nat.le_of_ble_eq_true rfl)⟩ (fun H1 locs hP1 hk hS => ?_)
  have hPb := hP1
  have hPa := pv_frame hPa (fun i j p q hp hq e => hXM x2 mm j i q p hq hp e.symm) hk
  generalize H1 = H at hPa hPb hS ⊢
  refine lv_icmp_eq (pc := 873) (tgt := 1446) hx hb dL_law_873 (by decide) (fun _ => ?_) (fun c9 => absurd rfl c9)
  exact K H locs ls hPa hPb hS hl
set_option maxHeartbeats 4000000 in
set_option maxRecDepth 100000 in
theorem law_c22 {p : Program} {l : Launch} {e : Env} {s : State} {m : MethodId} {below : List Frame} {meth : Method} {c : Code} {b L : Nat} {xs : Nat → Int32} {E : pv_E} {a : Nat → Nat} {b0 b1 b2 b3 b4 b5 b6 b7 b8 b9 b10 : Nat} (C0 : lw_C p s m meth c b L xs E a b0 b1 b2 b3 b4 b5 b6 b7 b8 b9 b10) (hL : L ≤ 3072) (i : Nat) (hi : i + 6 ≤ L) (Q : State → Prop) (x x2 : pv_XT) (mm m2 : pv_MT) (r : Int32) (h1 : m_X6_mixed (xs (nI (i + 1)).toNatClampNeg) (xs (nI (i + 2)).toNatClampNeg) x = some (r, x2)) (h2 : m_X7_mixed (xs (nI (i + 1)).toNatClampNeg) (xs (nI (i + 2)).toNatClampNeg) mm = some (r, m2))
    (K : ∀ (H : Heap) (locs : List Loc) (ls : Array Slot), va_P E.1 vwCl (pv_wX E a x2) H → va_P E.1 vwCl (pv_wM E b0 b1 b2 b3 b4 b5 b6 b7 b8 b9 b10 m2) H → va_S (fun q : Nat => s.heap.size ≤ q) s.heap H locs → lv_has ls 4 [(0, .ref b), (1, .ref (a 0)), (2, .ref b0), (3, .int (nI i))] → W p l e room_1 s m #[Value.ref b] below meth c H locs 48 871 Q (F0 m 1446 ls [])) : ∀ (H : Heap) (locs : List Loc) (ls : Array Slot), va_P E.1 vwCl (pv_wX E a x) H → va_P E.1 vwCl (pv_wM E b0 b1 b2 b3 b4 b5 b6 b7 b8 b9 b10 mm) H → va_S (fun q : Nat => s.heap.size ≤ q) s.heap H locs → lv_has ls 4 [(0, .ref b), (1, .ref (a 0)), (2, .ref b0), (3, .int (nI i))] → W p l e room_1 s m #[Value.ref b] below meth c H locs 48 871 Q (F0 m 878 ls []) := by
  obtain ⟨hx, hb, hml, hown, hts, hX, hbl, hE, hDa, hDb, hXM⟩ := C0
  have hK := hE.1
  have hA : ∀ q : Nat, s.heap.size ≤ q → (fun q : Nat => s.heap.size ≤ q) q := fun _ h => h
  have hbA : ¬ (fun q : Nat => s.heap.size ≤ q) b := Nat.not_le.mpr hbl
  intro H locs ls hPa hPb hS hl
  refine lv_aload_n (pc := 878) hx hb dL_law_878 rfl (lv_at hl 1 rfl) ?_
  refine lv_aload_n (pc := 879) hx hb dL_law_879 rfl (lv_at hl 0 rfl) ?_
  refine lv_iload_n (pc := 880) hx hb dL_law_880 rfl (lv_at hl 3 rfl) ?_
  refine lv_iconst (pc := 881) (v := nI 1) hx hb dL_law_881 (by decide) ?_
  refine lv_iadd (pc := 882) hx hb dL_law_882 ?_
  refine W.eq (g2 := F0 m 883 ls [.int (nI (i + 1)), .ref b, .ref (a 0)]) (by rw [lw_i]) ?_
  refine va_sld (pc := 883) hx hb hX hbl hbA hS (vp_in_nI (by omega) (by omega)) dL_law_883 ?_
  refine lv_aload_n (pc := 884) hx hb dL_law_884 rfl (lv_at hl 0 rfl) ?_
  refine lv_iload_n (pc := 885) hx hb dL_law_885 rfl (lv_at hl 3 rfl) ?_
  refine lv_iconst (pc := 886) (v := nI 2) hx hb dL_law_886 (by decide) ?_
  refine lv_iadd (pc := 887) hx hb dL_law_887 ?_
  refine W.eq (g2 := F0 m 888 ls [.int (nI (i + 2)), .ref b, .int (xs (nI (i + 1)).toNatClampNeg), .ref (a 0)]) (by rw [lw_i]) ?_
  refine va_sld (pc := 888) hx hb hX hbl hbA hS (vp_in_nI (by omega) (by omega)) dL_law_888 ?_
  refine pv_vRWk (pc := 889) (rest := []) (st1 := [.int r]) (ws := pv_wX E a x) (w1 := pv_wX E a x2) [.int (xs (nI (i + 1)).toNatClampNeg), .int (xs (nI (i + 2)).toNatClampNeg)] ⟨hx, hb, hml, hown, hts⟩ hE hA hS hPa (hDa x) (c_X6_mixed l E a (xs (nI (i + 1)).toNatClampNeg) (xs (nI (i + 2)).toNatClampNeg) x (r, x2) h1) (cwV 2 hts gL_law_X6_mixed rfl rfl rfl (by decide +kernel) ⟨(Nat.le_of_ble_eq_true rfl), (Nat.le_of_ble_eq_true rfl)⟩) (va_recv hK hPa (ci := 4) (q0 := 0) rfl rfl) rfl hl.1 rfl rfl (Nat.le_of_ble_eq_true rfl) dL_law_889 ⟨(Nat.le_of_ble_eq_true rfl), (Nat.le_of_ble_eq_true rfl)⟩ (fun H1 locs hP1 hk hS => ?_)
  have hPa := hP1
  have hPb := pv_frame hPb (hXM x mm) hk
  generalize H1 = H at hPa hPb hS ⊢
  refine lv_aload_n (pc := 892) hx hb dL_law_892 rfl (lv_at hl 2 rfl) ?_
  refine lv_aload_n (pc := 893) hx hb dL_law_893 rfl (lv_at hl 0 rfl) ?_
  refine lv_iload_n (pc := 894) hx hb dL_law_894 rfl (lv_at hl 3 rfl) ?_
  refine lv_iconst (pc := 895) (v := nI 1) hx hb dL_law_895 (by decide) ?_
  refine lv_iadd (pc := 896) hx hb dL_law_896 ?_
  refine W.eq (g2 := F0 m 897 ls [.int (nI (i + 1)), .ref b, .ref b0, .int r]) (by rw [lw_i]) ?_
  refine va_sld (pc := 897) hx hb hX hbl hbA hS (vp_in_nI (by omega) (by omega)) dL_law_897 ?_
  refine lv_aload_n (pc := 898) hx hb dL_law_898 rfl (lv_at hl 0 rfl) ?_
  refine lv_iload_n (pc := 899) hx hb dL_law_899 rfl (lv_at hl 3 rfl) ?_
  refine lv_iconst (pc := 900) (v := nI 2) hx hb dL_law_900 (by decide) ?_
  refine lv_iadd (pc := 901) hx hb dL_law_901 ?_
  refine W.eq (g2 := F0 m 902 ls [.int (nI (i + 2)), .ref b, .int (xs (nI (i + 1)).toNatClampNeg), .ref b0, .int r]) (by rw [lw_i]) ?_
  refine va_sld (pc := 902) hx hb hX hbl hbA hS (vp_in_nI (by omega) (by omega)) dL_law_902 ?_
  refine pv_vRWk (pc := 903) (rest := [.int r]) (st1 := [.int r, .int r]) (ws := pv_wM E b0 b1 b2 b3 b4 b5 b6 b7 b8 b9 b10 mm) (w1 := pv_wM E b0 b1 b2 b3 b4 b5 b6 b7 b8 b9 b10 m2) [.int (xs (nI (i + 1)).toNatClampNeg), .int (xs (nI (i + 2)).toNatClampNeg)] ⟨hx, hb, hml, hown, hts⟩ hE hA hS hPb (hDb mm) (c_X7_mixed l E b0 b1 b2 b3 b4 b5 b6 b7 b8 b9 b10 (xs (nI (i + 1)).toNatClampNeg) (xs (nI (i + 2)).toNatClampNeg) mm (r, m2) h2) (cwV 2 hts gL_law_X7_mixed rfl rfl rfl (by decide +kernel) ⟨(Nat.le_of_ble_eq_true rfl), (Nat.le_of_ble_eq_true rfl)⟩) (va_recv hK hPb (ci := 5) (q0 := 0) rfl rfl) rfl hl.1 rfl rfl (Nat.le_of_ble_eq_true rfl) dL_law_903 ⟨(Nat.le_of_ble_eq_true rfl), (Nat.le_of_ble_eq_true rfl)⟩ (fun H1 locs hP1 hk hS => ?_)
  have hPb := hP1
  have hPa := pv_frame hPa (fun i j p q hp hq e => hXM x2 mm j i q p hq hp e.symm) hk
  generalize H1 = H at hPa hPb hS ⊢
  refine lv_icmp_eq (pc := 906) (tgt := 1446) hx hb dL_law_906 (by decide) (fun _ => ?_) (fun c9 => absurd rfl c9)
  exact K H locs ls hPa hPb hS hl
set_option maxHeartbeats 4000000 in
set_option maxRecDepth 100000 in
theorem law_c23 {p : Program} {l : Launch} {e : Env} {s : State} {m : MethodId} {below : List Frame} {meth : Method} {c : Code} {b L : Nat} {xs : Nat → Int32} {E : pv_E} {a : Nat → Nat} {b0 b1 b2 b3 b4 b5 b6 b7 b8 b9 b10 : Nat} (C0 : lw_C p s m meth c b L xs E a b0 b1 b2 b3 b4 b5 b6 b7 b8 b9 b10) (hL : L ≤ 3072) (i : Nat) (hi : i + 6 ≤ L) (Q : State → Prop) (x x2 : pv_XT) (mm m2 : pv_MT) (r : Int32) (h1 : m_X6_kind (xs (nI (i + 1)).toNatClampNeg) (xs (nI (i + 2)).toNatClampNeg) x = some (r, x2)) (h2 : m_X7_kind (xs (nI (i + 1)).toNatClampNeg) (xs (nI (i + 2)).toNatClampNeg) mm = some (r, m2))
    (K : ∀ (H : Heap) (locs : List Loc) (ls : Array Slot), va_P E.1 vwCl (pv_wX E a x2) H → va_P E.1 vwCl (pv_wM E b0 b1 b2 b3 b4 b5 b6 b7 b8 b9 b10 m2) H → va_S (fun q : Nat => s.heap.size ≤ q) s.heap H locs → lv_has ls 4 [(0, .ref b), (1, .ref (a 0)), (2, .ref b0), (3, .int (nI i))] → W p l e room_1 s m #[Value.ref b] below meth c H locs 48 871 Q (F0 m 1446 ls [])) : ∀ (H : Heap) (locs : List Loc) (ls : Array Slot), va_P E.1 vwCl (pv_wX E a x) H → va_P E.1 vwCl (pv_wM E b0 b1 b2 b3 b4 b5 b6 b7 b8 b9 b10 mm) H → va_S (fun q : Nat => s.heap.size ≤ q) s.heap H locs → lv_has ls 4 [(0, .ref b), (1, .ref (a 0)), (2, .ref b0), (3, .int (nI i))] → W p l e room_1 s m #[Value.ref b] below meth c H locs 48 871 Q (F0 m 911 ls []) := by
  obtain ⟨hx, hb, hml, hown, hts, hX, hbl, hE, hDa, hDb, hXM⟩ := C0
  have hK := hE.1
  have hA : ∀ q : Nat, s.heap.size ≤ q → (fun q : Nat => s.heap.size ≤ q) q := fun _ h => h
  have hbA : ¬ (fun q : Nat => s.heap.size ≤ q) b := Nat.not_le.mpr hbl
  intro H locs ls hPa hPb hS hl
  refine lv_aload_n (pc := 911) hx hb dL_law_911 rfl (lv_at hl 1 rfl) ?_
  refine lv_aload_n (pc := 912) hx hb dL_law_912 rfl (lv_at hl 0 rfl) ?_
  refine lv_iload_n (pc := 913) hx hb dL_law_913 rfl (lv_at hl 3 rfl) ?_
  refine lv_iconst (pc := 914) (v := nI 1) hx hb dL_law_914 (by decide) ?_
  refine lv_iadd (pc := 915) hx hb dL_law_915 ?_
  refine W.eq (g2 := F0 m 916 ls [.int (nI (i + 1)), .ref b, .ref (a 0)]) (by rw [lw_i]) ?_
  refine va_sld (pc := 916) hx hb hX hbl hbA hS (vp_in_nI (by omega) (by omega)) dL_law_916 ?_
  refine lv_aload_n (pc := 917) hx hb dL_law_917 rfl (lv_at hl 0 rfl) ?_
  refine lv_iload_n (pc := 918) hx hb dL_law_918 rfl (lv_at hl 3 rfl) ?_
  refine lv_iconst (pc := 919) (v := nI 2) hx hb dL_law_919 (by decide) ?_
  refine lv_iadd (pc := 920) hx hb dL_law_920 ?_
  refine W.eq (g2 := F0 m 921 ls [.int (nI (i + 2)), .ref b, .int (xs (nI (i + 1)).toNatClampNeg), .ref (a 0)]) (by rw [lw_i]) ?_
  refine va_sld (pc := 921) hx hb hX hbl hbA hS (vp_in_nI (by omega) (by omega)) dL_law_921 ?_
  refine pv_vRWk (pc := 922) (rest := []) (st1 := [.int r]) (ws := pv_wX E a x) (w1 := pv_wX E a x2) [.int (xs (nI (i + 1)).toNatClampNeg), .int (xs (nI (i + 2)).toNatClampNeg)] ⟨hx, hb, hml, hown, hts⟩ hE hA hS hPa (hDa x) (c_X6_kind l E a (xs (nI (i + 1)).toNatClampNeg) (xs (nI (i + 2)).toNatClampNeg) x (r, x2) h1) (cwV 2 hts gL_law_X6_kind rfl rfl rfl (by decide +kernel) ⟨(Nat.le_of_ble_eq_true rfl), (Nat.le_of_ble_eq_true rfl)⟩) (va_recv hK hPa (ci := 4) (q0 := 0) rfl rfl) rfl hl.1 rfl rfl (Nat.le_of_ble_eq_true rfl) dL_law_922 ⟨(Nat.le_of_ble_eq_true rfl), (Nat.le_of_ble_eq_true rfl)⟩ (fun H1 locs hP1 hk hS => ?_)
  have hPa := hP1
  have hPb := pv_frame hPb (hXM x mm) hk
  generalize H1 = H at hPa hPb hS ⊢
  refine lv_aload_n (pc := 925) hx hb dL_law_925 rfl (lv_at hl 2 rfl) ?_
  refine lv_aload_n (pc := 926) hx hb dL_law_926 rfl (lv_at hl 0 rfl) ?_
  refine lv_iload_n (pc := 927) hx hb dL_law_927 rfl (lv_at hl 3 rfl) ?_
  refine lv_iconst (pc := 928) (v := nI 1) hx hb dL_law_928 (by decide) ?_
  refine lv_iadd (pc := 929) hx hb dL_law_929 ?_
  refine W.eq (g2 := F0 m 930 ls [.int (nI (i + 1)), .ref b, .ref b0, .int r]) (by rw [lw_i]) ?_
  refine va_sld (pc := 930) hx hb hX hbl hbA hS (vp_in_nI (by omega) (by omega)) dL_law_930 ?_
  refine lv_aload_n (pc := 931) hx hb dL_law_931 rfl (lv_at hl 0 rfl) ?_
  refine lv_iload_n (pc := 932) hx hb dL_law_932 rfl (lv_at hl 3 rfl) ?_
  refine lv_iconst (pc := 933) (v := nI 2) hx hb dL_law_933 (by decide) ?_
  refine lv_iadd (pc := 934) hx hb dL_law_934 ?_
  refine W.eq (g2 := F0 m 935 ls [.int (nI (i + 2)), .ref b, .int (xs (nI (i + 1)).toNatClampNeg), .ref b0, .int r]) (by rw [lw_i]) ?_
  refine va_sld (pc := 935) hx hb hX hbl hbA hS (vp_in_nI (by omega) (by omega)) dL_law_935 ?_
  refine pv_vRWk (pc := 936) (rest := [.int r]) (st1 := [.int r, .int r]) (ws := pv_wM E b0 b1 b2 b3 b4 b5 b6 b7 b8 b9 b10 mm) (w1 := pv_wM E b0 b1 b2 b3 b4 b5 b6 b7 b8 b9 b10 m2) [.int (xs (nI (i + 1)).toNatClampNeg), .int (xs (nI (i + 2)).toNatClampNeg)] ⟨hx, hb, hml, hown, hts⟩ hE hA hS hPb (hDb mm) (c_X7_kind l E b0 b1 b2 b3 b4 b5 b6 b7 b8 b9 b10 (xs (nI (i + 1)).toNatClampNeg) (xs (nI (i + 2)).toNatClampNeg) mm (r, m2) h2) (cwV 2 hts gL_law_X7_kind rfl rfl rfl (by decide +kernel) ⟨(Nat.le_of_ble_eq_true rfl), (Nat.le_of_ble_eq_true rfl)⟩) (va_recv hK hPb (ci := 5) (q0 := 0) rfl rfl) rfl hl.1 rfl rfl (Nat.le_of_ble_eq_true rfl) dL_law_936 ⟨(Nat.le_of_ble_eq_true rfl), (Nat.le_of_ble_eq_true rfl)⟩ (fun H1 locs hP1 hk hS => ?_)
  have hPb := hP1
  have hPa := pv_frame hPa (fun i j p q hp hq e => hXM x2 mm j i q p hq hp e.symm) hk
  generalize H1 = H at hPa hPb hS ⊢
  refine lv_icmp_eq (pc := 939) (tgt := 1446) hx hb dL_law_939 (by decide) (fun _ => ?_) (fun c9 => absurd rfl c9)
  exact K H locs ls hPa hPb hS hl
set_option maxHeartbeats 4000000 in
set_option maxRecDepth 100000 in
theorem law_c24 {p : Program} {l : Launch} {e : Env} {s : State} {m : MethodId} {below : List Frame} {meth : Method} {c : Code} {b L : Nat} {xs : Nat → Int32} {E : pv_E} {a : Nat → Nat} {b0 b1 b2 b3 b4 b5 b6 b7 b8 b9 b10 : Nat} (C0 : lw_C p s m meth c b L xs E a b0 b1 b2 b3 b4 b5 b6 b7 b8 b9 b10) (hL : L ≤ 3072) (i : Nat) (hi : i + 6 ≤ L) (Q : State → Prop) (x x2 : pv_XT) (mm m2 : pv_MT) (r : Int32) (h1 : m_X6_rest (xs (nI (i + 1)).toNatClampNeg) (xs (nI (i + 2)).toNatClampNeg) x = some (r, x2)) (h2 : m_X7_rest (xs (nI (i + 1)).toNatClampNeg) (xs (nI (i + 2)).toNatClampNeg) mm = some (r, m2))
    (K : ∀ (H : Heap) (locs : List Loc) (ls : Array Slot), va_P E.1 vwCl (pv_wX E a x2) H → va_P E.1 vwCl (pv_wM E b0 b1 b2 b3 b4 b5 b6 b7 b8 b9 b10 m2) H → va_S (fun q : Nat => s.heap.size ≤ q) s.heap H locs → lv_has ls 4 [(0, .ref b), (1, .ref (a 0)), (2, .ref b0), (3, .int (nI i))] → W p l e room_1 s m #[Value.ref b] below meth c H locs 48 871 Q (F0 m 1446 ls [])) : ∀ (H : Heap) (locs : List Loc) (ls : Array Slot), va_P E.1 vwCl (pv_wX E a x) H → va_P E.1 vwCl (pv_wM E b0 b1 b2 b3 b4 b5 b6 b7 b8 b9 b10 mm) H → va_S (fun q : Nat => s.heap.size ≤ q) s.heap H locs → lv_has ls 4 [(0, .ref b), (1, .ref (a 0)), (2, .ref b0), (3, .int (nI i))] → W p l e room_1 s m #[Value.ref b] below meth c H locs 48 871 Q (F0 m 944 ls []) := by
  obtain ⟨hx, hb, hml, hown, hts, hX, hbl, hE, hDa, hDb, hXM⟩ := C0
  have hK := hE.1
  have hA : ∀ q : Nat, s.heap.size ≤ q → (fun q : Nat => s.heap.size ≤ q) q := fun _ h => h
  have hbA : ¬ (fun q : Nat => s.heap.size ≤ q) b := Nat.not_le.mpr hbl
  intro H locs ls hPa hPb hS hl
  refine lv_aload_n (pc := 944) hx hb dL_law_944 rfl (lv_at hl 1 rfl) ?_
  refine lv_aload_n (pc := 945) hx hb dL_law_945 rfl (lv_at hl 0 rfl) ?_
  refine lv_iload_n (pc := 946) hx hb dL_law_946 rfl (lv_at hl 3 rfl) ?_
  refine lv_iconst (pc := 947) (v := nI 1) hx hb dL_law_947 (by decide) ?_
  refine lv_iadd (pc := 948) hx hb dL_law_948 ?_
  refine W.eq (g2 := F0 m 949 ls [.int (nI (i + 1)), .ref b, .ref (a 0)]) (by rw [lw_i]) ?_
  refine va_sld (pc := 949) hx hb hX hbl hbA hS (vp_in_nI (by omega) (by omega)) dL_law_949 ?_
  refine lv_aload_n (pc := 950) hx hb dL_law_950 rfl (lv_at hl 0 rfl) ?_
  refine lv_iload_n (pc := 951) hx hb dL_law_951 rfl (lv_at hl 3 rfl) ?_
  refine lv_iconst (pc := 952) (v := nI 2) hx hb dL_law_952 (by decide) ?_
  refine lv_iadd (pc := 953) hx hb dL_law_953 ?_
  refine W.eq (g2 := F0 m 954 ls [.int (nI (i + 2)), .ref b, .int (xs (nI (i + 1)).toNatClampNeg), .ref (a 0)]) (by rw [lw_i]) ?_
  refine va_sld (pc := 954) hx hb hX hbl hbA hS (vp_in_nI (by omega) (by omega)) dL_law_954 ?_
  refine pv_vRWk (pc := 955) (rest := []) (st1 := [.int r]) (ws := pv_wX E a x) (w1 := pv_wX E a x2) [.int (xs (nI (i + 1)).toNatClampNeg), .int (xs (nI (i + 2)).toNatClampNeg)] ⟨hx, hb, hml, hown, hts⟩ hE hA hS hPa (hDa x) (c_X6_rest l E a (xs (nI (i + 1)).toNatClampNeg) (xs (nI (i + 2)).toNatClampNeg) x (r, x2) h1) (cwV 2 hts gL_law_X6_rest rfl rfl rfl (by decide +kernel) ⟨(Nat.le_of_ble_eq_true rfl), (Nat.le_of_ble_eq_true rfl)⟩) (va_recv hK hPa (ci := 4) (q0 := 0) rfl rfl) rfl hl.1 rfl rfl (Nat.le_of_ble_eq_true rfl) dL_law_955 ⟨(Nat.le_of_ble_eq_true rfl), (Nat.le_of_ble_eq_true rfl)⟩ (fun H1 locs hP1 hk hS => ?_)
  have hPa := hP1
  have hPb := pv_frame hPb (hXM x mm) hk
  generalize H1 = H at hPa hPb hS ⊢
  refine lv_aload_n (pc := 958) hx hb dL_law_958 rfl (lv_at hl 2 rfl) ?_
  refine lv_aload_n (pc := 959) hx hb dL_law_959 rfl (lv_at hl 0 rfl) ?_
  refine lv_iload_n (pc := 960) hx hb dL_law_960 rfl (lv_at hl 3 rfl) ?_
  refine lv_iconst (pc := 961) (v := nI 1) hx hb dL_law_961 (by decide) ?_
  refine lv_iadd (pc := 962) hx hb dL_law_962 ?_
  refine W.eq (g2 := F0 m 963 ls [.int (nI (i + 1)), .ref b, .ref b0, .int r]) (by rw [lw_i]) ?_
  refine va_sld (pc := 963) hx hb hX hbl hbA hS (vp_in_nI (by omega) (by omega)) dL_law_963 ?_
  refine lv_aload_n (pc := 964) hx hb dL_law_964 rfl (lv_at hl 0 rfl) ?_
  refine lv_iload_n (pc := 965) hx hb dL_law_965 rfl (lv_at hl 3 rfl) ?_
  refine lv_iconst (pc := 966) (v := nI 2) hx hb dL_law_966 (by decide) ?_
  refine lv_iadd (pc := 967) hx hb dL_law_967 ?_
  refine W.eq (g2 := F0 m 968 ls [.int (nI (i + 2)), .ref b, .int (xs (nI (i + 1)).toNatClampNeg), .ref b0, .int r]) (by rw [lw_i]) ?_
  refine va_sld (pc := 968) hx hb hX hbl hbA hS (vp_in_nI (by omega) (by omega)) dL_law_968 ?_
  refine pv_vRWk (pc := 969) (rest := [.int r]) (st1 := [.int r, .int r]) (ws := pv_wM E b0 b1 b2 b3 b4 b5 b6 b7 b8 b9 b10 mm) (w1 := pv_wM E b0 b1 b2 b3 b4 b5 b6 b7 b8 b9 b10 m2) [.int (xs (nI (i + 1)).toNatClampNeg), .int (xs (nI (i + 2)).toNatClampNeg)] ⟨hx, hb, hml, hown, hts⟩ hE hA hS hPb (hDb mm) (c_X7_rest l E b0 b1 b2 b3 b4 b5 b6 b7 b8 b9 b10 (xs (nI (i + 1)).toNatClampNeg) (xs (nI (i + 2)).toNatClampNeg) mm (r, m2) h2) (cwV 2 hts gL_law_X7_rest rfl rfl rfl (by decide +kernel) ⟨(Nat.le_of_ble_eq_true rfl), (Nat.le_of_ble_eq_true rfl)⟩) (va_recv hK hPb (ci := 5) (q0 := 0) rfl rfl) rfl hl.1 rfl rfl (Nat.le_of_ble_eq_true rfl) dL_law_969 ⟨(Nat.le_of_ble_eq_true rfl), (Nat.le_of_ble_eq_true rfl)⟩ (fun H1 locs hP1 hk hS => ?_)
  have hPb := hP1
  have hPa := pv_frame hPa (fun i j p q hp hq e => hXM x2 mm j i q p hq hp e.symm) hk
  generalize H1 = H at hPa hPb hS ⊢
  refine lv_icmp_eq (pc := 972) (tgt := 1446) hx hb dL_law_972 (by decide) (fun _ => ?_) (fun c9 => absurd rfl c9)
  exact K H locs ls hPa hPb hS hl
set_option maxHeartbeats 4000000 in
set_option maxRecDepth 100000 in
theorem law_c25 {p : Program} {l : Launch} {e : Env} {s : State} {m : MethodId} {below : List Frame} {meth : Method} {c : Code} {b L : Nat} {xs : Nat → Int32} {E : pv_E} {a : Nat → Nat} {b0 b1 b2 b3 b4 b5 b6 b7 b8 b9 b10 : Nat} (C0 : lw_C p s m meth c b L xs E a b0 b1 b2 b3 b4 b5 b6 b7 b8 b9 b10) (hL : L ≤ 3072) (i : Nat) (hi : i + 6 ≤ L) (Q : State → Prop) (x x2 : pv_XT) (mm m2 : pv_MT) (r : Int32) (h1 : m_X6_peace (xs (nI (i + 1)).toNatClampNeg) x = some (r, x2)) (h2 : m_X7_peace (xs (nI (i + 1)).toNatClampNeg) mm = some (r, m2))
    (K : ∀ (H : Heap) (locs : List Loc) (ls : Array Slot), va_P E.1 vwCl (pv_wX E a x2) H → va_P E.1 vwCl (pv_wM E b0 b1 b2 b3 b4 b5 b6 b7 b8 b9 b10 m2) H → va_S (fun q : Nat => s.heap.size ≤ q) s.heap H locs → lv_has ls 4 [(0, .ref b), (1, .ref (a 0)), (2, .ref b0), (3, .int (nI i))] → W p l e room_1 s m #[Value.ref b] below meth c H locs 48 871 Q (F0 m 1446 ls [])) : ∀ (H : Heap) (locs : List Loc) (ls : Array Slot), va_P E.1 vwCl (pv_wX E a x) H → va_P E.1 vwCl (pv_wM E b0 b1 b2 b3 b4 b5 b6 b7 b8 b9 b10 mm) H → va_S (fun q : Nat => s.heap.size ≤ q) s.heap H locs → lv_has ls 4 [(0, .ref b), (1, .ref (a 0)), (2, .ref b0), (3, .int (nI i))] → W p l e room_1 s m #[Value.ref b] below meth c H locs 48 871 Q (F0 m 977 ls []) := by
  obtain ⟨hx, hb, hml, hown, hts, hX, hbl, hE, hDa, hDb, hXM⟩ := C0
  have hK := hE.1
  have hA : ∀ q : Nat, s.heap.size ≤ q → (fun q : Nat => s.heap.size ≤ q) q := fun _ h => h
  have hbA : ¬ (fun q : Nat => s.heap.size ≤ q) b := Nat.not_le.mpr hbl
  intro H locs ls hPa hPb hS hl
  refine lv_aload_n (pc := 977) hx hb dL_law_977 rfl (lv_at hl 1 rfl) ?_
  refine lv_aload_n (pc := 978) hx hb dL_law_978 rfl (lv_at hl 0 rfl) ?_
  refine lv_iload_n (pc := 979) hx hb dL_law_979 rfl (lv_at hl 3 rfl) ?_
  refine lv_iconst (pc := 980) (v := nI 1) hx hb dL_law_980 (by decide) ?_
  refine lv_iadd (pc := 981) hx hb dL_law_981 ?_
  refine W.eq (g2 := F0 m 982 ls [.int (nI (i + 1)), .ref b, .ref (a 0)]) (by rw [lw_i]) ?_
  refine va_sld (pc := 982) hx hb hX hbl hbA hS (vp_in_nI (by omega) (by omega)) dL_law_982 ?_
  refine pv_vRWk (pc := 983) (rest := []) (st1 := [.int r]) (ws := pv_wX E a x) (w1 := pv_wX E a x2) [.int (xs (nI (i + 1)).toNatClampNeg)] ⟨hx, hb, hml, hown, hts⟩ hE hA hS hPa (hDa x) (c_X6_peace l E a (xs (nI (i + 1)).toNatClampNeg) x (r, x2) h1) (cwV 1 hts gL_law_X6_peace rfl rfl rfl (by decide +kernel) ⟨(Nat.le_of_ble_eq_true rfl), (Nat.le_of_ble_eq_true rfl)⟩) (va_recv hK hPa (ci := 4) (q0 := 0) rfl rfl) rfl hl.1 rfl rfl (Nat.le_of_ble_eq_true rfl) dL_law_983 ⟨(Nat.le_of_ble_eq_true rfl), (Nat.le_of_ble_eq_true rfl)⟩ (fun H1 locs hP1 hk hS => ?_)
  have hPa := hP1
  have hPb := pv_frame hPb (hXM x mm) hk
  generalize H1 = H at hPa hPb hS ⊢
  refine lv_aload_n (pc := 986) hx hb dL_law_986 rfl (lv_at hl 2 rfl) ?_
  refine lv_aload_n (pc := 987) hx hb dL_law_987 rfl (lv_at hl 0 rfl) ?_
  refine lv_iload_n (pc := 988) hx hb dL_law_988 rfl (lv_at hl 3 rfl) ?_
  refine lv_iconst (pc := 989) (v := nI 1) hx hb dL_law_989 (by decide) ?_
  refine lv_iadd (pc := 990) hx hb dL_law_990 ?_
  refine W.eq (g2 := F0 m 991 ls [.int (nI (i + 1)), .ref b, .ref b0, .int r]) (by rw [lw_i]) ?_
  refine va_sld (pc := 991) hx hb hX hbl hbA hS (vp_in_nI (by omega) (by omega)) dL_law_991 ?_
  refine pv_vRWk (pc := 992) (rest := [.int r]) (st1 := [.int r, .int r]) (ws := pv_wM E b0 b1 b2 b3 b4 b5 b6 b7 b8 b9 b10 mm) (w1 := pv_wM E b0 b1 b2 b3 b4 b5 b6 b7 b8 b9 b10 m2) [.int (xs (nI (i + 1)).toNatClampNeg)] ⟨hx, hb, hml, hown, hts⟩ hE hA hS hPb (hDb mm) (c_X7_peace l E b0 b1 b2 b3 b4 b5 b6 b7 b8 b9 b10 (xs (nI (i + 1)).toNatClampNeg) mm (r, m2) h2) (cwV 1 hts gL_law_X7_peace rfl rfl rfl (by decide +kernel) ⟨(Nat.le_of_ble_eq_true rfl), (Nat.le_of_ble_eq_true rfl)⟩) (va_recv hK hPb (ci := 5) (q0 := 0) rfl rfl) rfl hl.1 rfl rfl (Nat.le_of_ble_eq_true rfl) dL_law_992 ⟨(Nat.le_of_ble_eq_true rfl), (Nat.le_of_ble_eq_true rfl)⟩ (fun H1 locs hP1 hk hS => ?_)
  have hPb := hP1
  have hPa := pv_frame hPa (fun i j p q hp hq e => hXM x2 mm j i q p hq hp e.symm) hk
  generalize H1 = H at hPa hPb hS ⊢
  refine lv_icmp_eq (pc := 995) (tgt := 1446) hx hb dL_law_995 (by decide) (fun _ => ?_) (fun c9 => absurd rfl c9)
  exact K H locs ls hPa hPb hS hl
set_option maxHeartbeats 4000000 in
set_option maxRecDepth 100000 in
theorem law_c26 {p : Program} {l : Launch} {e : Env} {s : State} {m : MethodId} {below : List Frame} {meth : Method} {c : Code} {b L : Nat} {xs : Nat → Int32} {E : pv_E} {a : Nat → Nat} {b0 b1 b2 b3 b4 b5 b6 b7 b8 b9 b10 : Nat} (C0 : lw_C p s m meth c b L xs E a b0 b1 b2 b3 b4 b5 b6 b7 b8 b9 b10) (hL : L ≤ 3072) (i : Nat) (hi : i + 6 ≤ L) (Q : State → Prop) (x x2 : pv_XT) (mm m2 : pv_MT) (r : Int32) (h1 : m_X6_champion (xs (nI (i + 1)).toNatClampNeg) x = some (r, x2)) (h2 : m_X7_champion (xs (nI (i + 1)).toNatClampNeg) mm = some (r, m2))
    (K : ∀ (H : Heap) (locs : List Loc) (ls : Array Slot), va_P E.1 vwCl (pv_wX E a x2) H → va_P E.1 vwCl (pv_wM E b0 b1 b2 b3 b4 b5 b6 b7 b8 b9 b10 m2) H → va_S (fun q : Nat => s.heap.size ≤ q) s.heap H locs → lv_has ls 4 [(0, .ref b), (1, .ref (a 0)), (2, .ref b0), (3, .int (nI i))] → W p l e room_1 s m #[Value.ref b] below meth c H locs 48 871 Q (F0 m 1446 ls [])) : ∀ (H : Heap) (locs : List Loc) (ls : Array Slot), va_P E.1 vwCl (pv_wX E a x) H → va_P E.1 vwCl (pv_wM E b0 b1 b2 b3 b4 b5 b6 b7 b8 b9 b10 mm) H → va_S (fun q : Nat => s.heap.size ≤ q) s.heap H locs → lv_has ls 4 [(0, .ref b), (1, .ref (a 0)), (2, .ref b0), (3, .int (nI i))] → W p l e room_1 s m #[Value.ref b] below meth c H locs 48 871 Q (F0 m 1000 ls []) := by
  obtain ⟨hx, hb, hml, hown, hts, hX, hbl, hE, hDa, hDb, hXM⟩ := C0
  have hK := hE.1
  have hA : ∀ q : Nat, s.heap.size ≤ q → (fun q : Nat => s.heap.size ≤ q) q := fun _ h => h
  have hbA : ¬ (fun q : Nat => s.heap.size ≤ q) b := Nat.not_le.mpr hbl
  intro H locs ls hPa hPb hS hl
  refine lv_aload_n (pc := 1000) hx hb dL_law_1000 rfl (lv_at hl 1 rfl) ?_
  refine lv_aload_n (pc := 1001) hx hb dL_law_1001 rfl (lv_at hl 0 rfl) ?_
  refine lv_iload_n (pc := 1002) hx hb dL_law_1002 rfl (lv_at hl 3 rfl) ?_
  refine lv_iconst (pc := 1003) (v := nI 1) hx hb dL_law_1003 (by decide) ?_
  refine lv_iadd (pc := 1004) hx hb dL_law_1004 ?_
  refine W.eq (g2 := F0 m 1005 ls [.int (nI (i + 1)), .ref b, .ref (a 0)]) (by rw [lw_i]) ?_
  refine va_sld (pc := 1005) hx hb hX hbl hbA hS (vp_in_nI (by omega) (by omega)) dL_law_1005 ?_
  refine pv_vRWk (pc := 1006) (rest := []) (st1 := [.int r]) (ws := pv_wX E a x) (w1 := pv_wX E a x2) [.int (xs (nI (i + 1)).toNatClampNeg)] ⟨hx, hb, hml, hown, hts⟩ hE hA hS hPa (hDa x) (c_X6_champion l E a (xs (nI (i + 1)).toNatClampNeg) x (r, x2) h1) (cwV 1 hts gL_law_X6_champion rfl rfl rfl (by decide +kernel) ⟨(Nat.le_of_ble_eq_true rfl), (Nat.le_of_ble_eq_true rfl)⟩) (va_recv hK hPa (ci := 4) (q0 := 0) rfl rfl) rfl hl.1 rfl rfl (Nat.le_of_ble_eq_true rfl) dL_law_1006 ⟨(Nat.le_of_ble_eq_true rfl), (Nat.le_of_ble_eq_true rfl)⟩ (fun H1 locs hP1 hk hS => ?_)
  have hPa := hP1
  have hPb := pv_frame hPb (hXM x mm) hk
  generalize H1 = H at hPa hPb hS ⊢
  refine lv_aload_n (pc := 1009) hx hb dL_law_1009 rfl (lv_at hl 2 rfl) ?_
  refine lv_aload_n (pc := 1010) hx hb dL_law_1010 rfl (lv_at hl 0 rfl) ?_
  refine lv_iload_n (pc := 1011) hx hb dL_law_1011 rfl (lv_at hl 3 rfl) ?_
  refine lv_iconst (pc := 1012) (v := nI 1) hx hb dL_law_1012 (by decide) ?_
  refine lv_iadd (pc := 1013) hx hb dL_law_1013 ?_
  refine W.eq (g2 := F0 m 1014 ls [.int (nI (i + 1)), .ref b, .ref b0, .int r]) (by rw [lw_i]) ?_
  refine va_sld (pc := 1014) hx hb hX hbl hbA hS (vp_in_nI (by omega) (by omega)) dL_law_1014 ?_
  refine pv_vRWk (pc := 1015) (rest := [.int r]) (st1 := [.int r, .int r]) (ws := pv_wM E b0 b1 b2 b3 b4 b5 b6 b7 b8 b9 b10 mm) (w1 := pv_wM E b0 b1 b2 b3 b4 b5 b6 b7 b8 b9 b10 m2) [.int (xs (nI (i + 1)).toNatClampNeg)] ⟨hx, hb, hml, hown, hts⟩ hE hA hS hPb (hDb mm) (c_X7_champion l E b0 b1 b2 b3 b4 b5 b6 b7 b8 b9 b10 (xs (nI (i + 1)).toNatClampNeg) mm (r, m2) h2) (cwV 1 hts gL_law_X7_champion rfl rfl rfl (by decide +kernel) ⟨(Nat.le_of_ble_eq_true rfl), (Nat.le_of_ble_eq_true rfl)⟩) (va_recv hK hPb (ci := 5) (q0 := 0) rfl rfl) rfl hl.1 rfl rfl (Nat.le_of_ble_eq_true rfl) dL_law_1015 ⟨(Nat.le_of_ble_eq_true rfl), (Nat.le_of_ble_eq_true rfl)⟩ (fun H1 locs hP1 hk hS => ?_)
  have hPb := hP1
  have hPa := pv_frame hPa (fun i j p q hp hq e => hXM x2 mm j i q p hq hp e.symm) hk
  generalize H1 = H at hPa hPb hS ⊢
  refine lv_icmp_eq (pc := 1018) (tgt := 1446) hx hb dL_law_1018 (by decide) (fun _ => ?_) (fun c9 => absurd rfl c9)
  exact K H locs ls hPa hPb hS hl
set_option maxHeartbeats 4000000 in
set_option maxRecDepth 100000 in
theorem law_c27 {p : Program} {l : Launch} {e : Env} {s : State} {m : MethodId} {below : List Frame} {meth : Method} {c : Code} {b L : Nat} {xs : Nat → Int32} {E : pv_E} {a : Nat → Nat} {b0 b1 b2 b3 b4 b5 b6 b7 b8 b9 b10 : Nat} (C0 : lw_C p s m meth c b L xs E a b0 b1 b2 b3 b4 b5 b6 b7 b8 b9 b10) (hL : L ≤ 3072) (i : Nat) (hi : i + 6 ≤ L) (Q : State → Prop) (x x2 : pv_XT) (mm m2 : pv_MT) (r : Int32) (h1 : m_X6_feed (xs (nI (i + 1)).toNatClampNeg) (xs (nI (i + 2)).toNatClampNeg) x = some (r, x2)) (h2 : m_X7_feed (xs (nI (i + 1)).toNatClampNeg) (xs (nI (i + 2)).toNatClampNeg) mm = some (r, m2))
    (K : ∀ (H : Heap) (locs : List Loc) (ls : Array Slot), va_P E.1 vwCl (pv_wX E a x2) H → va_P E.1 vwCl (pv_wM E b0 b1 b2 b3 b4 b5 b6 b7 b8 b9 b10 m2) H → va_S (fun q : Nat => s.heap.size ≤ q) s.heap H locs → lv_has ls 4 [(0, .ref b), (1, .ref (a 0)), (2, .ref b0), (3, .int (nI i))] → W p l e room_1 s m #[Value.ref b] below meth c H locs 48 871 Q (F0 m 1446 ls [])) : ∀ (H : Heap) (locs : List Loc) (ls : Array Slot), va_P E.1 vwCl (pv_wX E a x) H → va_P E.1 vwCl (pv_wM E b0 b1 b2 b3 b4 b5 b6 b7 b8 b9 b10 mm) H → va_S (fun q : Nat => s.heap.size ≤ q) s.heap H locs → lv_has ls 4 [(0, .ref b), (1, .ref (a 0)), (2, .ref b0), (3, .int (nI i))] → W p l e room_1 s m #[Value.ref b] below meth c H locs 48 871 Q (F0 m 1023 ls []) := by
  obtain ⟨hx, hb, hml, hown, hts, hX, hbl, hE, hDa, hDb, hXM⟩ := C0
  have hK := hE.1
  have hA : ∀ q : Nat, s.heap.size ≤ q → (fun q : Nat => s.heap.size ≤ q) q := fun _ h => h
  have hbA : ¬ (fun q : Nat => s.heap.size ≤ q) b := Nat.not_le.mpr hbl
  intro H locs ls hPa hPb hS hl
  refine lv_aload_n (pc := 1023) hx hb dL_law_1023 rfl (lv_at hl 1 rfl) ?_
  refine lv_aload_n (pc := 1024) hx hb dL_law_1024 rfl (lv_at hl 0 rfl) ?_
  refine lv_iload_n (pc := 1025) hx hb dL_law_1025 rfl (lv_at hl 3 rfl) ?_
  refine lv_iconst (pc := 1026) (v := nI 1) hx hb dL_law_1026 (by decide) ?_
  refine lv_iadd (pc := 1027) hx hb dL_law_1027 ?_
  refine W.eq (g2 := F0 m 1028 ls [.int (nI (i + 1)), .ref b, .ref (a 0)]) (by rw [lw_i]) ?_
  refine va_sld (pc := 1028) hx hb hX hbl hbA hS (vp_in_nI (by omega) (by omega)) dL_law_1028 ?_
  refine lv_aload_n (pc := 1029) hx hb dL_law_1029 rfl (lv_at hl 0 rfl) ?_
  refine lv_iload_n (pc := 1030) hx hb dL_law_1030 rfl (lv_at hl 3 rfl) ?_
  refine lv_iconst (pc := 1031) (v := nI 2) hx hb dL_law_1031 (by decide) ?_
  refine lv_iadd (pc := 1032) hx hb dL_law_1032 ?_
  refine W.eq (g2 := F0 m 1033 ls [.int (nI (i + 2)), .ref b, .int (xs (nI (i + 1)).toNatClampNeg), .ref (a 0)]) (by rw [lw_i]) ?_
  refine va_sld (pc := 1033) hx hb hX hbl hbA hS (vp_in_nI (by omega) (by omega)) dL_law_1033 ?_
  refine pv_vRWk (pc := 1034) (rest := []) (st1 := [.int r]) (ws := pv_wX E a x) (w1 := pv_wX E a x2) [.int (xs (nI (i + 1)).toNatClampNeg), .int (xs (nI (i + 2)).toNatClampNeg)] ⟨hx, hb, hml, hown, hts⟩ hE hA hS hPa (hDa x) (c_X6_feed l E a (xs (nI (i + 1)).toNatClampNeg) (xs (nI (i + 2)).toNatClampNeg) x (r, x2) h1) (cwV 2 hts gL_law_X6_feed rfl rfl rfl (by decide +kernel) ⟨(Nat.le_of_ble_eq_true rfl), (Nat.le_of_ble_eq_true rfl)⟩) (va_recv hK hPa (ci := 4) (q0 := 0) rfl rfl) rfl hl.1 rfl rfl (Nat.le_of_ble_eq_true rfl) dL_law_1034 ⟨(Nat.le_of_ble_eq_true rfl), (Nat.le_of_ble_eq_true rfl)⟩ (fun H1 locs hP1 hk hS => ?_)
  have hPa := hP1
  have hPb := pv_frame hPb (hXM x mm) hk
  generalize H1 = H at hPa hPb hS ⊢
  refine lv_aload_n (pc := 1037) hx hb dL_law_1037 rfl (lv_at hl 2 rfl) ?_
  refine lv_aload_n (pc := 1038) hx hb dL_law_1038 rfl (lv_at hl 0 rfl) ?_
  refine lv_iload_n (pc := 1039) hx hb dL_law_1039 rfl (lv_at hl 3 rfl) ?_
  refine lv_iconst (pc := 1040) (v := nI 1) hx hb dL_law_1040 (by decide) ?_
  refine lv_iadd (pc := 1041) hx hb dL_law_1041 ?_
  refine W.eq (g2 := F0 m 1042 ls [.int (nI (i + 1)), .ref b, .ref b0, .int r]) (by rw [lw_i]) ?_
  refine va_sld (pc := 1042) hx hb hX hbl hbA hS (vp_in_nI (by omega) (by omega)) dL_law_1042 ?_
  refine lv_aload_n (pc := 1043) hx hb dL_law_1043 rfl (lv_at hl 0 rfl) ?_
  refine lv_iload_n (pc := 1044) hx hb dL_law_1044 rfl (lv_at hl 3 rfl) ?_
  refine lv_iconst (pc := 1045) (v := nI 2) hx hb dL_law_1045 (by decide) ?_
  refine lv_iadd (pc := 1046) hx hb dL_law_1046 ?_
  refine W.eq (g2 := F0 m 1047 ls [.int (nI (i + 2)), .ref b, .int (xs (nI (i + 1)).toNatClampNeg), .ref b0, .int r]) (by rw [lw_i]) ?_
  refine va_sld (pc := 1047) hx hb hX hbl hbA hS (vp_in_nI (by omega) (by omega)) dL_law_1047 ?_
  refine pv_vRWk (pc := 1048) (rest := [.int r]) (st1 := [.int r, .int r]) (ws := pv_wM E b0 b1 b2 b3 b4 b5 b6 b7 b8 b9 b10 mm) (w1 := pv_wM E b0 b1 b2 b3 b4 b5 b6 b7 b8 b9 b10 m2) [.int (xs (nI (i + 1)).toNatClampNeg), .int (xs (nI (i + 2)).toNatClampNeg)] ⟨hx, hb, hml, hown, hts⟩ hE hA hS hPb (hDb mm) (c_X7_feed l E b0 b1 b2 b3 b4 b5 b6 b7 b8 b9 b10 (xs (nI (i + 1)).toNatClampNeg) (xs (nI (i + 2)).toNatClampNeg) mm (r, m2) h2) (cwV 2 hts gL_law_X7_feed rfl rfl rfl (by decide +kernel) ⟨(Nat.le_of_ble_eq_true rfl), (Nat.le_of_ble_eq_true rfl)⟩) (va_recv hK hPb (ci := 5) (q0 := 0) rfl rfl) rfl hl.1 rfl rfl (Nat.le_of_ble_eq_true rfl) dL_law_1048 ⟨(Nat.le_of_ble_eq_true rfl), (Nat.le_of_ble_eq_true rfl)⟩ (fun H1 locs hP1 hk hS => ?_)
  have hPb := hP1
  have hPa := pv_frame hPa (fun i j p q hp hq e => hXM x2 mm j i q p hq hp e.symm) hk
  generalize H1 = H at hPa hPb hS ⊢
  refine lv_icmp_eq (pc := 1051) (tgt := 1446) hx hb dL_law_1051 (by decide) (fun _ => ?_) (fun c9 => absurd rfl c9)
  exact K H locs ls hPa hPb hS hl
set_option maxHeartbeats 4000000 in
set_option maxRecDepth 100000 in
theorem law_c28 {p : Program} {l : Launch} {e : Env} {s : State} {m : MethodId} {below : List Frame} {meth : Method} {c : Code} {b L : Nat} {xs : Nat → Int32} {E : pv_E} {a : Nat → Nat} {b0 b1 b2 b3 b4 b5 b6 b7 b8 b9 b10 : Nat} (C0 : lw_C p s m meth c b L xs E a b0 b1 b2 b3 b4 b5 b6 b7 b8 b9 b10) (hL : L ≤ 3072) (i : Nat) (hi : i + 6 ≤ L) (Q : State → Prop) (x x2 : pv_XT) (mm m2 : pv_MT) (r : Int32) (h1 : m_X6_wipe  x = some (r, x2)) (h2 : m_X7_wipe  mm = some (r, m2))
    (K : ∀ (H : Heap) (locs : List Loc) (ls : Array Slot), va_P E.1 vwCl (pv_wX E a x2) H → va_P E.1 vwCl (pv_wM E b0 b1 b2 b3 b4 b5 b6 b7 b8 b9 b10 m2) H → va_S (fun q : Nat => s.heap.size ≤ q) s.heap H locs → lv_has ls 4 [(0, .ref b), (1, .ref (a 0)), (2, .ref b0), (3, .int (nI i))] → W p l e room_1 s m #[Value.ref b] below meth c H locs 48 871 Q (F0 m 1446 ls [])) : ∀ (H : Heap) (locs : List Loc) (ls : Array Slot), va_P E.1 vwCl (pv_wX E a x) H → va_P E.1 vwCl (pv_wM E b0 b1 b2 b3 b4 b5 b6 b7 b8 b9 b10 mm) H → va_S (fun q : Nat => s.heap.size ≤ q) s.heap H locs → lv_has ls 4 [(0, .ref b), (1, .ref (a 0)), (2, .ref b0), (3, .int (nI i))] → W p l e room_1 s m #[Value.ref b] below meth c H locs 48 871 Q (F0 m 1056 ls []) := by
  obtain ⟨hx, hb, hml, hown, hts, hX, hbl, hE, hDa, hDb, hXM⟩ := C0
  have hK := hE.1
  have hA : ∀ q : Nat, s.heap.size ≤ q → (fun q : Nat => s.heap.size ≤ q) q := fun _ h => h
  have hbA : ¬ (fun q : Nat => s.heap.size ≤ q) b := Nat.not_le.mpr hbl
  intro H locs ls hPa hPb hS hl
  refine lv_aload_n (pc := 1056) hx hb dL_law_1056 rfl (lv_at hl 1 rfl) ?_
  refine pv_vRWk (pc := 1057) (rest := []) (st1 := [.int r]) (ws := pv_wX E a x) (w1 := pv_wX E a x2) [] ⟨hx, hb, hml, hown, hts⟩ hE hA hS hPa (hDa x) (c_X6_wipe l E a  x (r, x2) h1) (cwV 0 hts gL_law_X6_wipe rfl rfl rfl (by decide +kernel) ⟨(Nat.le_of_ble_eq_true rfl), (Nat.le_of_ble_eq_true rfl)⟩) (va_recv hK hPa (ci := 4) (q0 := 0) rfl rfl) rfl hl.1 rfl rfl (Nat.le_of_ble_eq_true rfl) dL_law_1057 ⟨(Nat.le_of_ble_eq_true rfl), (Nat.le_of_ble_eq_true rfl)⟩ (fun H1 locs hP1 hk hS => ?_)
  have hPa := hP1
  have hPb := pv_frame hPb (hXM x mm) hk
  generalize H1 = H at hPa hPb hS ⊢
  refine lv_aload_n (pc := 1060) hx hb dL_law_1060 rfl (lv_at hl 2 rfl) ?_
  refine pv_vRWk (pc := 1061) (rest := [.int r]) (st1 := [.int r, .int r]) (ws := pv_wM E b0 b1 b2 b3 b4 b5 b6 b7 b8 b9 b10 mm) (w1 := pv_wM E b0 b1 b2 b3 b4 b5 b6 b7 b8 b9 b10 m2) [] ⟨hx, hb, hml, hown, hts⟩ hE hA hS hPb (hDb mm) (c_X7_wipe l E b0 b1 b2 b3 b4 b5 b6 b7 b8 b9 b10  mm (r, m2) h2) (cwV 0 hts gL_law_X7_wipe rfl rfl rfl (by decide +kernel) ⟨(Nat.le_of_ble_eq_true rfl), (Nat.le_of_ble_eq_true rfl)⟩) (va_recv hK hPb (ci := 5) (q0 := 0) rfl rfl) rfl hl.1 rfl rfl (Nat.le_of_ble_eq_true rfl) dL_law_1061 ⟨(Nat.le_of_ble_eq_true rfl), (Nat.le_of_ble_eq_true rfl)⟩ (fun H1 locs hP1 hk hS => ?_)
  have hPb := hP1
  have hPa := pv_frame hPa (fun i j p q hp hq e => hXM x2 mm j i q p hq hp e.symm) hk
  generalize H1 = H at hPa hPb hS ⊢
  refine lv_icmp_eq (pc := 1064) (tgt := 1446) hx hb dL_law_1064 (by decide) (fun _ => ?_) (fun c9 => absurd rfl c9)
  exact K H locs ls hPa hPb hS hl
set_option maxHeartbeats 4000000 in
set_option maxRecDepth 100000 in
theorem law_c29 {p : Program} {l : Launch} {e : Env} {s : State} {m : MethodId} {below : List Frame} {meth : Method} {c : Code} {b L : Nat} {xs : Nat → Int32} {E : pv_E} {a : Nat → Nat} {b0 b1 b2 b3 b4 b5 b6 b7 b8 b9 b10 : Nat} (C0 : lw_C p s m meth c b L xs E a b0 b1 b2 b3 b4 b5 b6 b7 b8 b9 b10) (hL : L ≤ 3072) (i : Nat) (hi : i + 6 ≤ L) (Q : State → Prop) (x x2 : pv_XT) (mm m2 : pv_MT) (r : Int32) (h1 : m_X6_spa  x = some (r, x2)) (h2 : m_X7_spa  mm = some (r, m2))
    (K : ∀ (H : Heap) (locs : List Loc) (ls : Array Slot), va_P E.1 vwCl (pv_wX E a x2) H → va_P E.1 vwCl (pv_wM E b0 b1 b2 b3 b4 b5 b6 b7 b8 b9 b10 m2) H → va_S (fun q : Nat => s.heap.size ≤ q) s.heap H locs → lv_has ls 4 [(0, .ref b), (1, .ref (a 0)), (2, .ref b0), (3, .int (nI i))] → W p l e room_1 s m #[Value.ref b] below meth c H locs 48 871 Q (F0 m 1446 ls [])) : ∀ (H : Heap) (locs : List Loc) (ls : Array Slot), va_P E.1 vwCl (pv_wX E a x) H → va_P E.1 vwCl (pv_wM E b0 b1 b2 b3 b4 b5 b6 b7 b8 b9 b10 mm) H → va_S (fun q : Nat => s.heap.size ≤ q) s.heap H locs → lv_has ls 4 [(0, .ref b), (1, .ref (a 0)), (2, .ref b0), (3, .int (nI i))] → W p l e room_1 s m #[Value.ref b] below meth c H locs 48 871 Q (F0 m 1069 ls []) := by
  obtain ⟨hx, hb, hml, hown, hts, hX, hbl, hE, hDa, hDb, hXM⟩ := C0
  have hK := hE.1
  have hA : ∀ q : Nat, s.heap.size ≤ q → (fun q : Nat => s.heap.size ≤ q) q := fun _ h => h
  have hbA : ¬ (fun q : Nat => s.heap.size ≤ q) b := Nat.not_le.mpr hbl
  intro H locs ls hPa hPb hS hl
  refine lv_aload_n (pc := 1069) hx hb dL_law_1069 rfl (lv_at hl 1 rfl) ?_
  refine pv_vRWk (pc := 1070) (rest := []) (st1 := [.int r]) (ws := pv_wX E a x) (w1 := pv_wX E a x2) [] ⟨hx, hb, hml, hown, hts⟩ hE hA hS hPa (hDa x) (c_X6_spa l E a  x (r, x2) h1) (cwV 0 hts gL_law_X6_spa rfl rfl rfl (by decide +kernel) ⟨(Nat.le_of_ble_eq_true rfl), (Nat.le_of_ble_eq_true rfl)⟩) (va_recv hK hPa (ci := 4) (q0 := 0) rfl rfl) rfl hl.1 rfl rfl (Nat.le_of_ble_eq_true rfl) dL_law_1070 ⟨(Nat.le_of_ble_eq_true rfl), (Nat.le_of_ble_eq_true rfl)⟩ (fun H1 locs hP1 hk hS => ?_)
  have hPa := hP1
  have hPb := pv_frame hPb (hXM x mm) hk
  generalize H1 = H at hPa hPb hS ⊢
  refine lv_aload_n (pc := 1073) hx hb dL_law_1073 rfl (lv_at hl 2 rfl) ?_
  refine pv_vRWk (pc := 1074) (rest := [.int r]) (st1 := [.int r, .int r]) (ws := pv_wM E b0 b1 b2 b3 b4 b5 b6 b7 b8 b9 b10 mm) (w1 := pv_wM E b0 b1 b2 b3 b4 b5 b6 b7 b8 b9 b10 m2) [] ⟨hx, hb, hml, hown, hts⟩ hE hA hS hPb (hDb mm) (c_X7_spa l E b0 b1 b2 b3 b4 b5 b6 b7 b8 b9 b10  mm (r, m2) h2) (cwV 0 hts gL_law_X7_spa rfl rfl rfl (by decide +kernel) ⟨(Nat.le_of_ble_eq_true rfl), (Nat.le_of_ble_eq_true rfl)⟩) (va_recv hK hPb (ci := 5) (q0 := 0) rfl rfl) rfl hl.1 rfl rfl (Nat.le_of_ble_eq_true rfl) dL_law_1074 ⟨(Nat.le_of_ble_eq_true rfl), (Nat.le_of_ble_eq_true rfl)⟩ (fun H1 locs hP1 hk hS => ?_)
  have hPb := hP1
  have hPa := pv_frame hPa (fun i j p q hp hq e => hXM x2 mm j i q p hq hp e.symm) hk
  generalize H1 = H at hPa hPb hS ⊢
  refine lv_icmp_eq (pc := 1077) (tgt := 1446) hx hb dL_law_1077 (by decide) (fun _ => ?_) (fun c9 => absurd rfl c9)
  exact K H locs ls hPa hPb hS hl
set_option maxHeartbeats 4000000 in
set_option maxRecDepth 100000 in
theorem law_c30 {p : Program} {l : Launch} {e : Env} {s : State} {m : MethodId} {below : List Frame} {meth : Method} {c : Code} {b L : Nat} {xs : Nat → Int32} {E : pv_E} {a : Nat → Nat} {b0 b1 b2 b3 b4 b5 b6 b7 b8 b9 b10 : Nat} (C0 : lw_C p s m meth c b L xs E a b0 b1 b2 b3 b4 b5 b6 b7 b8 b9 b10) (hL : L ≤ 3072) (i : Nat) (hi : i + 6 ≤ L) (Q : State → Prop) (x x2 : pv_XT) (mm m2 : pv_MT) (r : Int32) (h1 : m_X6_sheet (xs (nI (i + 1)).toNatClampNeg) (xs (nI (i + 2)).toNatClampNeg) (xs (nI (i + 3)).toNatClampNeg) x = some (r, x2)) (h2 : m_X7_sheet (xs (nI (i + 1)).toNatClampNeg) (xs (nI (i + 2)).toNatClampNeg) (xs (nI (i + 3)).toNatClampNeg) mm = some (r, m2))
    (K : ∀ (H : Heap) (locs : List Loc) (ls : Array Slot), va_P E.1 vwCl (pv_wX E a x2) H → va_P E.1 vwCl (pv_wM E b0 b1 b2 b3 b4 b5 b6 b7 b8 b9 b10 m2) H → va_S (fun q : Nat => s.heap.size ≤ q) s.heap H locs → lv_has ls 4 [(0, .ref b), (1, .ref (a 0)), (2, .ref b0), (3, .int (nI i))] → W p l e room_1 s m #[Value.ref b] below meth c H locs 48 871 Q (F0 m 1446 ls [])) : ∀ (H : Heap) (locs : List Loc) (ls : Array Slot), va_P E.1 vwCl (pv_wX E a x) H → va_P E.1 vwCl (pv_wM E b0 b1 b2 b3 b4 b5 b6 b7 b8 b9 b10 mm) H → va_S (fun q : Nat => s.heap.size ≤ q) s.heap H locs → lv_has ls 4 [(0, .ref b), (1, .ref (a 0)), (2, .ref b0), (3, .int (nI i))] → W p l e room_1 s m #[Value.ref b] below meth c H locs 48 871 Q (F0 m 1082 ls []) := by
  obtain ⟨hx, hb, hml, hown, hts, hX, hbl, hE, hDa, hDb, hXM⟩ := C0
  have hK := hE.1
  have hA : ∀ q : Nat, s.heap.size ≤ q → (fun q : Nat => s.heap.size ≤ q) q := fun _ h => h
  have hbA : ¬ (fun q : Nat => s.heap.size ≤ q) b := Nat.not_le.mpr hbl
  intro H locs ls hPa hPb hS hl
  refine lv_aload_n (pc := 1082) hx hb dL_law_1082 rfl (lv_at hl 1 rfl) ?_
  refine lv_aload_n (pc := 1083) hx hb dL_law_1083 rfl (lv_at hl 0 rfl) ?_
  refine lv_iload_n (pc := 1084) hx hb dL_law_1084 rfl (lv_at hl 3 rfl) ?_
  refine lv_iconst (pc := 1085) (v := nI 1) hx hb dL_law_1085 (by decide) ?_
  refine lv_iadd (pc := 1086) hx hb dL_law_1086 ?_
  refine W.eq (g2 := F0 m 1087 ls [.int (nI (i + 1)), .ref b, .ref (a 0)]) (by rw [lw_i]) ?_
  refine va_sld (pc := 1087) hx hb hX hbl hbA hS (vp_in_nI (by omega) (by omega)) dL_law_1087 ?_
  refine lv_aload_n (pc := 1088) hx hb dL_law_1088 rfl (lv_at hl 0 rfl) ?_
  refine lv_iload_n (pc := 1089) hx hb dL_law_1089 rfl (lv_at hl 3 rfl) ?_
  refine lv_iconst (pc := 1090) (v := nI 2) hx hb dL_law_1090 (by decide) ?_
  refine lv_iadd (pc := 1091) hx hb dL_law_1091 ?_
  refine W.eq (g2 := F0 m 1092 ls [.int (nI (i + 2)), .ref b, .int (xs (nI (i + 1)).toNatClampNeg), .ref (a 0)]) (by rw [lw_i]) ?_
  refine va_sld (pc := 1092) hx hb hX hbl hbA hS (vp_in_nI (by omega) (by omega)) dL_law_1092 ?_
  refine lv_aload_n (pc := 1093) hx hb dL_law_1093 rfl (lv_at hl 0 rfl) ?_
  refine lv_iload_n (pc := 1094) hx hb dL_law_1094 rfl (lv_at hl 3 rfl) ?_
  refine lv_iconst (pc := 1095) (v := nI 3) hx hb dL_law_1095 (by decide) ?_
  refine lv_iadd (pc := 1096) hx hb dL_law_1096 ?_
  refine W.eq (g2 := F0 m 1097 ls [.int (nI (i + 3)), .ref b, .int (xs (nI (i + 2)).toNatClampNeg), .int (xs (nI (i + 1)).toNatClampNeg), .ref (a 0)]) (by rw [lw_i]) ?_
  refine va_sld (pc := 1097) hx hb hX hbl hbA hS (vp_in_nI (by omega) (by omega)) dL_law_1097 ?_
  refine pv_vRWk (pc := 1098) (rest := []) (st1 := [.int r]) (ws := pv_wX E a x) (w1 := pv_wX E a x2) [.int (xs (nI (i + 1)).toNatClampNeg), .int (xs (nI (i + 2)).toNatClampNeg), .int (xs (nI (i + 3)).toNatClampNeg)] ⟨hx, hb, hml, hown, hts⟩ hE hA hS hPa (hDa x) (c_X6_sheet l E a (xs (nI (i + 1)).toNatClampNeg) (xs (nI (i + 2)).toNatClampNeg) (xs (nI (i + 3)).toNatClampNeg) x (r, x2) h1) (cwV 3 hts gL_law_X6_sheet rfl rfl rfl (by decide +kernel) ⟨(Nat.le_of_ble_eq_true rfl), (Nat.le_of_ble_eq_true rfl)⟩) (va_recv hK hPa (ci := 4) (q0 := 0) rfl rfl) rfl hl.1 rfl rfl (Nat.le_of_ble_eq_true rfl) dL_law_1098 ⟨(Nat.le_of_ble_eq_true rfl), (Nat.le_of_ble_eq_true rfl)⟩ (fun H1 locs hP1 hk hS => ?_)
  have hPa := hP1
  have hPb := pv_frame hPb (hXM x mm) hk
  generalize H1 = H at hPa hPb hS ⊢
  refine lv_aload_n (pc := 1101) hx hb dL_law_1101 rfl (lv_at hl 2 rfl) ?_
  refine lv_aload_n (pc := 1102) hx hb dL_law_1102 rfl (lv_at hl 0 rfl) ?_
  refine lv_iload_n (pc := 1103) hx hb dL_law_1103 rfl (lv_at hl 3 rfl) ?_
  refine lv_iconst (pc := 1104) (v := nI 1) hx hb dL_law_1104 (by decide) ?_
  refine lv_iadd (pc := 1105) hx hb dL_law_1105 ?_
  refine W.eq (g2 := F0 m 1106 ls [.int (nI (i + 1)), .ref b, .ref b0, .int r]) (by rw [lw_i]) ?_
  refine va_sld (pc := 1106) hx hb hX hbl hbA hS (vp_in_nI (by omega) (by omega)) dL_law_1106 ?_
  refine lv_aload_n (pc := 1107) hx hb dL_law_1107 rfl (lv_at hl 0 rfl) ?_
  refine lv_iload_n (pc := 1108) hx hb dL_law_1108 rfl (lv_at hl 3 rfl) ?_
  refine lv_iconst (pc := 1109) (v := nI 2) hx hb dL_law_1109 (by decide) ?_
  refine lv_iadd (pc := 1110) hx hb dL_law_1110 ?_
  refine W.eq (g2 := F0 m 1111 ls [.int (nI (i + 2)), .ref b, .int (xs (nI (i + 1)).toNatClampNeg), .ref b0, .int r]) (by rw [lw_i]) ?_
  refine va_sld (pc := 1111) hx hb hX hbl hbA hS (vp_in_nI (by omega) (by omega)) dL_law_1111 ?_
  refine lv_aload_n (pc := 1112) hx hb dL_law_1112 rfl (lv_at hl 0 rfl) ?_
  refine lv_iload_n (pc := 1113) hx hb dL_law_1113 rfl (lv_at hl 3 rfl) ?_
  refine lv_iconst (pc := 1114) (v := nI 3) hx hb dL_law_1114 (by decide) ?_
  refine lv_iadd (pc := 1115) hx hb dL_law_1115 ?_
  refine W.eq (g2 := F0 m 1116 ls [.int (nI (i + 3)), .ref b, .int (xs (nI (i + 2)).toNatClampNeg), .int (xs (nI (i + 1)).toNatClampNeg), .ref b0, .int r]) (by rw [lw_i]) ?_
  refine va_sld (pc := 1116) hx hb hX hbl hbA hS (vp_in_nI (by omega) (by omega)) dL_law_1116 ?_
  refine pv_vRWk (pc := 1117) (rest := [.int r]) (st1 := [.int r, .int r]) (ws := pv_wM E b0 b1 b2 b3 b4 b5 b6 b7 b8 b9 b10 mm) (w1 := pv_wM E b0 b1 b2 b3 b4 b5 b6 b7 b8 b9 b10 m2) [.int (xs (nI (i + 1)).toNatClampNeg), .int (xs (nI (i + 2)).toNatClampNeg), .int (xs (nI (i + 3)).toNatClampNeg)] ⟨hx, hb, hml, hown, hts⟩ hE hA hS hPb (hDb mm) (c_X7_sheet l E b0 b1 b2 b3 b4 b5 b6 b7 b8 b9 b10 (xs (nI (i + 1)).toNatClampNeg) (xs (nI (i + 2)).toNatClampNeg) (xs (nI (i + 3)).toNatClampNeg) mm (r, m2) h2) (cwV 3 hts gL_law_X7_sheet rfl rfl rfl (by decide +kernel) ⟨(Nat.le_of_ble_eq_true rfl), (Nat.le_of_ble_eq_true rfl)⟩) (va_recv hK hPb (ci := 5) (q0 := 0) rfl rfl) rfl hl.1 rfl rfl (Nat.le_of_ble_eq_true rfl) dL_law_1117 ⟨(Nat.le_of_ble_eq_true rfl), (Nat.le_of_ble_eq_true rfl)⟩ (fun H1 locs hP1 hk hS => ?_)
  have hPb := hP1
  have hPa := pv_frame hPa (fun i j p q hp hq e => hXM x2 mm j i q p hq hp e.symm) hk
  generalize H1 = H at hPa hPb hS ⊢
  refine lv_icmp_eq (pc := 1120) (tgt := 1446) hx hb dL_law_1120 (by decide) (fun _ => ?_) (fun c9 => absurd rfl c9)
  exact K H locs ls hPa hPb hS hl
set_option maxHeartbeats 4000000 in
set_option maxRecDepth 100000 in
theorem law_c31 {p : Program} {l : Launch} {e : Env} {s : State} {m : MethodId} {below : List Frame} {meth : Method} {c : Code} {b L : Nat} {xs : Nat → Int32} {E : pv_E} {a : Nat → Nat} {b0 b1 b2 b3 b4 b5 b6 b7 b8 b9 b10 : Nat} (C0 : lw_C p s m meth c b L xs E a b0 b1 b2 b3 b4 b5 b6 b7 b8 b9 b10) (hL : L ≤ 3072) (i : Nat) (hi : i + 6 ≤ L) (Q : State → Prop) (x x2 : pv_XT) (mm m2 : pv_MT) (r : Int64) (h1 : m_X6_write (xs (nI (i + 1)).toNatClampNeg) (xs (nI (i + 2)).toNatClampNeg) (((xs (nI (i + 3)).toNatClampNeg).toInt64 <<< ((32 : Int32).toInt64 &&& 63)) ||| ((xs (nI (i + 4)).toNatClampNeg).toInt64 &&& 4294967295)) x = some (r, x2)) (h2 : m_X7_write (xs (nI (i + 1)).toNatClampNeg) (xs (nI (i + 2)).toNatClampNeg) (((xs (nI (i + 3)).toNatClampNeg).toInt64 <<< ((32 : Int32).toInt64 &&& 63)) ||| ((xs (nI (i + 4)).toNatClampNeg).toInt64 &&& 4294967295)) mm = some (r, m2))
    (K : ∀ (H : Heap) (locs : List Loc) (ls : Array Slot), va_P E.1 vwCl (pv_wX E a x2) H → va_P E.1 vwCl (pv_wM E b0 b1 b2 b3 b4 b5 b6 b7 b8 b9 b10 m2) H → va_S (fun q : Nat => s.heap.size ≤ q) s.heap H locs → lv_has ls 4 [(0, .ref b), (1, .ref (a 0)), (2, .ref b0), (3, .int (nI i))] → W p l e room_1 s m #[Value.ref b] below meth c H locs 48 871 Q (F0 m 1446 ls [])) : ∀ (H : Heap) (locs : List Loc) (ls : Array Slot), va_P E.1 vwCl (pv_wX E a x) H → va_P E.1 vwCl (pv_wM E b0 b1 b2 b3 b4 b5 b6 b7 b8 b9 b10 mm) H → va_S (fun q : Nat => s.heap.size ≤ q) s.heap H locs → lv_has ls 4 [(0, .ref b), (1, .ref (a 0)), (2, .ref b0), (3, .int (nI i))] → W p l e room_1 s m #[Value.ref b] below meth c H locs 48 871 Q (F0 m 1125 ls []) := by
  obtain ⟨hx, hb, hml, hown, hts, hX, hbl, hE, hDa, hDb, hXM⟩ := C0
  have hK := hE.1
  have hA : ∀ q : Nat, s.heap.size ≤ q → (fun q : Nat => s.heap.size ≤ q) q := fun _ h => h
  have hbA : ¬ (fun q : Nat => s.heap.size ≤ q) b := Nat.not_le.mpr hbl
  intro H locs ls hPa hPb hS hl
  refine lv_aload_n (pc := 1125) hx hb dL_law_1125 rfl (lv_at hl 1 rfl) ?_
  refine lv_aload_n (pc := 1126) hx hb dL_law_1126 rfl (lv_at hl 0 rfl) ?_
  refine lv_iload_n (pc := 1127) hx hb dL_law_1127 rfl (lv_at hl 3 rfl) ?_
  refine lv_iconst (pc := 1128) (v := nI 1) hx hb dL_law_1128 (by decide) ?_
  refine lv_iadd (pc := 1129) hx hb dL_law_1129 ?_
  refine W.eq (g2 := F0 m 1130 ls [.int (nI (i + 1)), .ref b, .ref (a 0)]) (by rw [lw_i]) ?_
  refine va_sld (pc := 1130) hx hb hX hbl hbA hS (vp_in_nI (by omega) (by omega)) dL_law_1130 ?_
  refine lv_aload_n (pc := 1131) hx hb dL_law_1131 rfl (lv_at hl 0 rfl) ?_
  refine lv_iload_n (pc := 1132) hx hb dL_law_1132 rfl (lv_at hl 3 rfl) ?_
  refine lv_iconst (pc := 1133) (v := nI 2) hx hb dL_law_1133 (by decide) ?_
  refine lv_iadd (pc := 1134) hx hb dL_law_1134 ?_
  refine W.eq (g2 := F0 m 1135 ls [.int (nI (i + 2)), .ref b, .int (xs (nI (i + 1)).toNatClampNeg), .ref (a 0)]) (by rw [lw_i]) ?_
  refine va_sld (pc := 1135) hx hb hX hbl hbA hS (vp_in_nI (by omega) (by omega)) dL_law_1135 ?_
  refine lv_aload_n (pc := 1136) hx hb dL_law_1136 rfl (lv_at hl 0 rfl) ?_
  refine lv_iload_n (pc := 1137) hx hb dL_law_1137 rfl (lv_at hl 3 rfl) ?_
  refine lv_iconst (pc := 1138) (v := nI 3) hx hb dL_law_1138 (by decide) ?_
  refine lv_iadd (pc := 1139) hx hb dL_law_1139 ?_
  refine W.eq (g2 := F0 m 1140 ls [.int (nI (i + 3)), .ref b, .int (xs (nI (i + 2)).toNatClampNeg), .int (xs (nI (i + 1)).toNatClampNeg), .ref (a 0)]) (by rw [lw_i]) ?_
  refine va_sld (pc := 1140) hx hb hX hbl hbA hS (vp_in_nI (by omega) (by omega)) dL_law_1140 ?_
  refine lv_i2l (pc := 1141) (v := (xs (nI (i + 3)).toNatClampNeg).toInt64) hx hb dL_law_1141 rfl ?_
  refine lv_bipush (pc := 1142) (v := 32) hx hb dL_law_1142 (by decide) ?_
  refine lv_lshl (pc := 1144) (v := ((xs (nI (i + 3)).toNatClampNeg).toInt64 <<< ((32 : Int32).toInt64 &&& 63))) hx hb dL_law_1144 rfl ?_
  refine lv_aload_n (pc := 1145) hx hb dL_law_1145 rfl (lv_at hl 0 rfl) ?_
  refine lv_iload_n (pc := 1146) hx hb dL_law_1146 rfl (lv_at hl 3 rfl) ?_
  refine lv_iconst (pc := 1147) (v := nI 4) hx hb dL_law_1147 (by decide) ?_
  refine lv_iadd (pc := 1148) hx hb dL_law_1148 ?_
  refine W.eq (g2 := F0 m 1149 ls [.int (nI (i + 4)), .ref b, .long ((xs (nI (i + 3)).toNatClampNeg).toInt64 <<< ((32 : Int32).toInt64 &&& 63)), .int (xs (nI (i + 2)).toNatClampNeg), .int (xs (nI (i + 1)).toNatClampNeg), .ref (a 0)]) (by rw [lw_i]) ?_
  refine va_sld (pc := 1149) hx hb hX hbl hbA hS (vp_in_nI (by omega) (by omega)) dL_law_1149 ?_
  refine lv_i2l (pc := 1150) (v := (xs (nI (i + 4)).toNatClampNeg).toInt64) hx hb dL_law_1150 rfl ?_
  refine lv_ldc2 (pc := 1151) hx hb hown (hts (Cond.constantLong RL 141 (4294967295)) (List.mem_append_left _ (List.mem_append_left _ (List.mem_append_left _ (List.mem_append_left _ (List.mem_append_left _ (List.mem_append_left _ (List.mem_append_left _ (List.mem_append_left _ (by decide +kernel))))))))) ) dL_law_1151 ?_
  refine lv_land (pc := 1154) hx hb dL_law_1154 ?_
  refine lv_lor (pc := 1155) hx hb dL_law_1155 ?_
  refine pv_vRWk (pc := 1156) (rest := []) (st1 := [.long r]) (ws := pv_wX E a x) (w1 := pv_wX E a x2) [.int (xs (nI (i + 1)).toNatClampNeg), .int (xs (nI (i + 2)).toNatClampNeg), .long (((xs (nI (i + 3)).toNatClampNeg).toInt64 <<< ((32 : Int32).toInt64 &&& 63)) ||| ((xs (nI (i + 4)).toNatClampNeg).toInt64 &&& 4294967295))] ⟨hx, hb, hml, hown, hts⟩ hE hA hS hPa (hDa x) (c_X6_write l E a (xs (nI (i + 1)).toNatClampNeg) (xs (nI (i + 2)).toNatClampNeg) (((xs (nI (i + 3)).toNatClampNeg).toInt64 <<< ((32 : Int32).toInt64 &&& 63)) ||| ((xs (nI (i + 4)).toNatClampNeg).toInt64 &&& 4294967295)) x (r, x2) h1) (cwV 3 hts gL_law_X6_write rfl rfl rfl (by decide +kernel) ⟨(Nat.le_of_ble_eq_true rfl), (Nat.le_of_ble_eq_true rfl)⟩) (va_recv hK hPa (ci := 4) (q0 := 0) rfl rfl) rfl hl.1 rfl rfl (Nat.le_of_ble_eq_true rfl) dL_law_1156 ⟨(Nat.le_of_ble_eq_true rfl), (Nat.le_of_ble_eq_true rfl)⟩ (fun H1 locs hP1 hk hS => ?_)
  have hPa := hP1
  have hPb := pv_frame hPb (hXM x mm) hk
  generalize H1 = H at hPa hPb hS ⊢
  refine lv_aload_n (pc := 1159) hx hb dL_law_1159 rfl (lv_at hl 2 rfl) ?_
  refine lv_aload_n (pc := 1160) hx hb dL_law_1160 rfl (lv_at hl 0 rfl) ?_
  refine lv_iload_n (pc := 1161) hx hb dL_law_1161 rfl (lv_at hl 3 rfl) ?_
  refine lv_iconst (pc := 1162) (v := nI 1) hx hb dL_law_1162 (by decide) ?_
  refine lv_iadd (pc := 1163) hx hb dL_law_1163 ?_
  refine W.eq (g2 := F0 m 1164 ls [.int (nI (i + 1)), .ref b, .ref b0, .long r]) (by rw [lw_i]) ?_
  refine va_sld (pc := 1164) hx hb hX hbl hbA hS (vp_in_nI (by omega) (by omega)) dL_law_1164 ?_
  refine lv_aload_n (pc := 1165) hx hb dL_law_1165 rfl (lv_at hl 0 rfl) ?_
  refine lv_iload_n (pc := 1166) hx hb dL_law_1166 rfl (lv_at hl 3 rfl) ?_
  refine lv_iconst (pc := 1167) (v := nI 2) hx hb dL_law_1167 (by decide) ?_
  refine lv_iadd (pc := 1168) hx hb dL_law_1168 ?_
  refine W.eq (g2 := F0 m 1169 ls [.int (nI (i + 2)), .ref b, .int (xs (nI (i + 1)).toNatClampNeg), .ref b0, .long r]) (by rw [lw_i]) ?_
  refine va_sld (pc := 1169) hx hb hX hbl hbA hS (vp_in_nI (by omega) (by omega)) dL_law_1169 ?_
  refine lv_aload_n (pc := 1170) hx hb dL_law_1170 rfl (lv_at hl 0 rfl) ?_
  refine lv_iload_n (pc := 1171) hx hb dL_law_1171 rfl (lv_at hl 3 rfl) ?_
  refine lv_iconst (pc := 1172) (v := nI 3) hx hb dL_law_1172 (by decide) ?_
  refine lv_iadd (pc := 1173) hx hb dL_law_1173 ?_
  refine W.eq (g2 := F0 m 1174 ls [.int (nI (i + 3)), .ref b, .int (xs (nI (i + 2)).toNatClampNeg), .int (xs (nI (i + 1)).toNatClampNeg), .ref b0, .long r]) (by rw [lw_i]) ?_
  refine va_sld (pc := 1174) hx hb hX hbl hbA hS (vp_in_nI (by omega) (by omega)) dL_law_1174 ?_
  refine lv_i2l (pc := 1175) (v := (xs (nI (i + 3)).toNatClampNeg).toInt64) hx hb dL_law_1175 rfl ?_
  refine lv_bipush (pc := 1176) (v := 32) hx hb dL_law_1176 (by decide) ?_
  refine lv_lshl (pc := 1178) (v := ((xs (nI (i + 3)).toNatClampNeg).toInt64 <<< ((32 : Int32).toInt64 &&& 63))) hx hb dL_law_1178 rfl ?_
  refine lv_aload_n (pc := 1179) hx hb dL_law_1179 rfl (lv_at hl 0 rfl) ?_
  refine lv_iload_n (pc := 1180) hx hb dL_law_1180 rfl (lv_at hl 3 rfl) ?_
  refine lv_iconst (pc := 1181) (v := nI 4) hx hb dL_law_1181 (by decide) ?_
  refine lv_iadd (pc := 1182) hx hb dL_law_1182 ?_
  refine W.eq (g2 := F0 m 1183 ls [.int (nI (i + 4)), .ref b, .long ((xs (nI (i + 3)).toNatClampNeg).toInt64 <<< ((32 : Int32).toInt64 &&& 63)), .int (xs (nI (i + 2)).toNatClampNeg), .int (xs (nI (i + 1)).toNatClampNeg), .ref b0, .long r]) (by rw [lw_i]) ?_
  refine va_sld (pc := 1183) hx hb hX hbl hbA hS (vp_in_nI (by omega) (by omega)) dL_law_1183 ?_
  refine lv_i2l (pc := 1184) (v := (xs (nI (i + 4)).toNatClampNeg).toInt64) hx hb dL_law_1184 rfl ?_
  refine lv_ldc2 (pc := 1185) hx hb hown (hts (Cond.constantLong RL 141 (4294967295)) (List.mem_append_left _ (List.mem_append_left _ (List.mem_append_left _ (List.mem_append_left _ (List.mem_append_left _ (List.mem_append_left _ (List.mem_append_left _ (List.mem_append_left _ (by decide +kernel))))))))) ) dL_law_1185 ?_
  refine lv_land (pc := 1188) hx hb dL_law_1188 ?_
  refine lv_lor (pc := 1189) hx hb dL_law_1189 ?_
  refine pv_vRWk (pc := 1190) (rest := [.long r]) (st1 := [.long r, .long r]) (ws := pv_wM E b0 b1 b2 b3 b4 b5 b6 b7 b8 b9 b10 mm) (w1 := pv_wM E b0 b1 b2 b3 b4 b5 b6 b7 b8 b9 b10 m2) [.int (xs (nI (i + 1)).toNatClampNeg), .int (xs (nI (i + 2)).toNatClampNeg), .long (((xs (nI (i + 3)).toNatClampNeg).toInt64 <<< ((32 : Int32).toInt64 &&& 63)) ||| ((xs (nI (i + 4)).toNatClampNeg).toInt64 &&& 4294967295))] ⟨hx, hb, hml, hown, hts⟩ hE hA hS hPb (hDb mm) (c_X7_write l E b0 b1 b2 b3 b4 b5 b6 b7 b8 b9 b10 (xs (nI (i + 1)).toNatClampNeg) (xs (nI (i + 2)).toNatClampNeg) (((xs (nI (i + 3)).toNatClampNeg).toInt64 <<< ((32 : Int32).toInt64 &&& 63)) ||| ((xs (nI (i + 4)).toNatClampNeg).toInt64 &&& 4294967295)) mm (r, m2) h2) (cwV 3 hts gL_law_X7_write rfl rfl rfl (by decide +kernel) ⟨(Nat.le_of_ble_eq_true rfl), (Nat.le_of_ble_eq_true rfl)⟩) (va_recv hK hPb (ci := 5) (q0 := 0) rfl rfl) rfl hl.1 rfl rfl (Nat.le_of_ble_eq_true rfl) dL_law_1190 ⟨(Nat.le_of_ble_eq_true rfl), (Nat.le_of_ble_eq_true rfl)⟩ (fun H1 locs hP1 hk hS => ?_)
  have hPb := hP1
  have hPa := pv_frame hPa (fun i j p q hp hq e => hXM x2 mm j i q p hq hp e.symm) hk
  generalize H1 = H at hPa hPb hS ⊢
  refine W.lcmp (pc := 1193) hx hb dL_law_1193 ?_
  refine lv_if_eq (pc := 1194) (tgt := 1446) hx hb dL_law_1194 (by decide) (fun _ => ?_) (fun c9 => absurd (lw_cmp r) c9)
  exact K H locs ls hPa hPb hS hl
set_option maxHeartbeats 4000000 in
set_option maxRecDepth 100000 in
theorem law_c32 {p : Program} {l : Launch} {e : Env} {s : State} {m : MethodId} {below : List Frame} {meth : Method} {c : Code} {b L : Nat} {xs : Nat → Int32} {E : pv_E} {a : Nat → Nat} {b0 b1 b2 b3 b4 b5 b6 b7 b8 b9 b10 : Nat} (C0 : lw_C p s m meth c b L xs E a b0 b1 b2 b3 b4 b5 b6 b7 b8 b9 b10) (hL : L ≤ 3072) (i : Nat) (hi : i + 6 ≤ L) (Q : State → Prop) (x x2 : pv_XT) (mm m2 : pv_MT) (r : Int32) (h1 : m_X6_copy (xs (nI (i + 1)).toNatClampNeg) (xs (nI (i + 2)).toNatClampNeg) (xs (nI (i + 3)).toNatClampNeg) (xs (nI (i + 4)).toNatClampNeg) (xs (nI (i + 5)).toNatClampNeg) x = some (r, x2)) (h2 : m_X7_copy (xs (nI (i + 1)).toNatClampNeg) (xs (nI (i + 2)).toNatClampNeg) (xs (nI (i + 3)).toNatClampNeg) (xs (nI (i + 4)).toNatClampNeg) (xs (nI (i + 5)).toNatClampNeg) mm = some (r, m2))
    (K : ∀ (H : Heap) (locs : List Loc) (ls : Array Slot), va_P E.1 vwCl (pv_wX E a x2) H → va_P E.1 vwCl (pv_wM E b0 b1 b2 b3 b4 b5 b6 b7 b8 b9 b10 m2) H → va_S (fun q : Nat => s.heap.size ≤ q) s.heap H locs → lv_has ls 4 [(0, .ref b), (1, .ref (a 0)), (2, .ref b0), (3, .int (nI i))] → W p l e room_1 s m #[Value.ref b] below meth c H locs 48 871 Q (F0 m 1446 ls [])) : ∀ (H : Heap) (locs : List Loc) (ls : Array Slot), va_P E.1 vwCl (pv_wX E a x) H → va_P E.1 vwCl (pv_wM E b0 b1 b2 b3 b4 b5 b6 b7 b8 b9 b10 mm) H → va_S (fun q : Nat => s.heap.size ≤ q) s.heap H locs → lv_has ls 4 [(0, .ref b), (1, .ref (a 0)), (2, .ref b0), (3, .int (nI i))] → W p l e room_1 s m #[Value.ref b] below meth c H locs 48 871 Q (F0 m 1199 ls []) := by
  obtain ⟨hx, hb, hml, hown, hts, hX, hbl, hE, hDa, hDb, hXM⟩ := C0
  have hK := hE.1
  have hA : ∀ q : Nat, s.heap.size ≤ q → (fun q : Nat => s.heap.size ≤ q) q := fun _ h => h
  have hbA : ¬ (fun q : Nat => s.heap.size ≤ q) b := Nat.not_le.mpr hbl
  intro H locs ls hPa hPb hS hl
  refine lv_aload_n (pc := 1199) hx hb dL_law_1199 rfl (lv_at hl 1 rfl) ?_
  refine lv_aload_n (pc := 1200) hx hb dL_law_1200 rfl (lv_at hl 0 rfl) ?_
  refine lv_iload_n (pc := 1201) hx hb dL_law_1201 rfl (lv_at hl 3 rfl) ?_
  refine lv_iconst (pc := 1202) (v := nI 1) hx hb dL_law_1202 (by decide) ?_
  refine lv_iadd (pc := 1203) hx hb dL_law_1203 ?_
  refine W.eq (g2 := F0 m 1204 ls [.int (nI (i + 1)), .ref b, .ref (a 0)]) (by rw [lw_i]) ?_
  refine va_sld (pc := 1204) hx hb hX hbl hbA hS (vp_in_nI (by omega) (by omega)) dL_law_1204 ?_
  refine lv_aload_n (pc := 1205) hx hb dL_law_1205 rfl (lv_at hl 0 rfl) ?_
  refine lv_iload_n (pc := 1206) hx hb dL_law_1206 rfl (lv_at hl 3 rfl) ?_
  refine lv_iconst (pc := 1207) (v := nI 2) hx hb dL_law_1207 (by decide) ?_
  refine lv_iadd (pc := 1208) hx hb dL_law_1208 ?_
  refine W.eq (g2 := F0 m 1209 ls [.int (nI (i + 2)), .ref b, .int (xs (nI (i + 1)).toNatClampNeg), .ref (a 0)]) (by rw [lw_i]) ?_
  refine va_sld (pc := 1209) hx hb hX hbl hbA hS (vp_in_nI (by omega) (by omega)) dL_law_1209 ?_
  refine lv_aload_n (pc := 1210) hx hb dL_law_1210 rfl (lv_at hl 0 rfl) ?_
  refine lv_iload_n (pc := 1211) hx hb dL_law_1211 rfl (lv_at hl 3 rfl) ?_
  refine lv_iconst (pc := 1212) (v := nI 3) hx hb dL_law_1212 (by decide) ?_
  refine lv_iadd (pc := 1213) hx hb dL_law_1213 ?_
  refine W.eq (g2 := F0 m 1214 ls [.int (nI (i + 3)), .ref b, .int (xs (nI (i + 2)).toNatClampNeg), .int (xs (nI (i + 1)).toNatClampNeg), .ref (a 0)]) (by rw [lw_i]) ?_
  refine va_sld (pc := 1214) hx hb hX hbl hbA hS (vp_in_nI (by omega) (by omega)) dL_law_1214 ?_
  refine lv_aload_n (pc := 1215) hx hb dL_law_1215 rfl (lv_at hl 0 rfl) ?_
  refine lv_iload_n (pc := 1216) hx hb dL_law_1216 rfl (lv_at hl 3 rfl) ?_
  refine lv_iconst (pc := 1217) (v := nI 4) hx hb dL_law_1217 (by decide) ?_
  refine lv_iadd (pc := 1218) hx hb dL_law_1218 ?_
  refine W.eq (g2 := F0 m 1219 ls [.int (nI (i + 4)), .ref b, .int (xs (nI (i + 3)).toNatClampNeg), .int (xs (nI (i + 2)).toNatClampNeg), .int (xs (nI (i + 1)).toNatClampNeg), .ref (a 0)]) (by rw [lw_i]) ?_
  refine va_sld (pc := 1219) hx hb hX hbl hbA hS (vp_in_nI (by omega) (by omega)) dL_law_1219 ?_
  refine lv_aload_n (pc := 1220) hx hb dL_law_1220 rfl (lv_at hl 0 rfl) ?_
  refine lv_iload_n (pc := 1221) hx hb dL_law_1221 rfl (lv_at hl 3 rfl) ?_
  refine lv_iconst (pc := 1222) (v := nI 5) hx hb dL_law_1222 (by decide) ?_
  refine lv_iadd (pc := 1223) hx hb dL_law_1223 ?_
  refine W.eq (g2 := F0 m 1224 ls [.int (nI (i + 5)), .ref b, .int (xs (nI (i + 4)).toNatClampNeg), .int (xs (nI (i + 3)).toNatClampNeg), .int (xs (nI (i + 2)).toNatClampNeg), .int (xs (nI (i + 1)).toNatClampNeg), .ref (a 0)]) (by rw [lw_i]) ?_
  refine va_sld (pc := 1224) hx hb hX hbl hbA hS (vp_in_nI (by omega) (by omega)) dL_law_1224 ?_
  refine pv_vRWk (pc := 1225) (rest := []) (st1 := [.int r]) (ws := pv_wX E a x) (w1 := pv_wX E a x2) [.int (xs (nI (i + 1)).toNatClampNeg), .int (xs (nI (i + 2)).toNatClampNeg), .int (xs (nI (i + 3)).toNatClampNeg), .int (xs (nI (i + 4)).toNatClampNeg), .int (xs (nI (i + 5)).toNatClampNeg)] ⟨hx, hb, hml, hown, hts⟩ hE hA hS hPa (hDa x) (c_X6_copy l E a (xs (nI (i + 1)).toNatClampNeg) (xs (nI (i + 2)).toNatClampNeg) (xs (nI (i + 3)).toNatClampNeg) (xs (nI (i + 4)).toNatClampNeg) (xs (nI (i + 5)).toNatClampNeg) x (r, x2) h1) (cwV 5 hts gL_law_X6_copy rfl rfl rfl (by decide +kernel) ⟨(Nat.le_of_ble_eq_true rfl), (Nat.le_of_ble_eq_true rfl)⟩) (va_recv hK hPa (ci := 4) (q0 := 0) rfl rfl) rfl hl.1 rfl rfl (Nat.le_of_ble_eq_true rfl) dL_law_1225 ⟨(Nat.le_of_ble_eq_true rfl), (Nat.le_of_ble_eq_true rfl)⟩ (fun H1 locs hP1 hk hS => ?_)
  have hPa := hP1
  have hPb := pv_frame hPb (hXM x mm) hk
  generalize H1 = H at hPa hPb hS ⊢
  refine lv_aload_n (pc := 1228) hx hb dL_law_1228 rfl (lv_at hl 2 rfl) ?_
  refine lv_aload_n (pc := 1229) hx hb dL_law_1229 rfl (lv_at hl 0 rfl) ?_
  refine lv_iload_n (pc := 1230) hx hb dL_law_1230 rfl (lv_at hl 3 rfl) ?_
  refine lv_iconst (pc := 1231) (v := nI 1) hx hb dL_law_1231 (by decide) ?_
  refine lv_iadd (pc := 1232) hx hb dL_law_1232 ?_
  refine W.eq (g2 := F0 m 1233 ls [.int (nI (i + 1)), .ref b, .ref b0, .int r]) (by rw [lw_i]) ?_
  refine va_sld (pc := 1233) hx hb hX hbl hbA hS (vp_in_nI (by omega) (by omega)) dL_law_1233 ?_
  refine lv_aload_n (pc := 1234) hx hb dL_law_1234 rfl (lv_at hl 0 rfl) ?_
  refine lv_iload_n (pc := 1235) hx hb dL_law_1235 rfl (lv_at hl 3 rfl) ?_
  refine lv_iconst (pc := 1236) (v := nI 2) hx hb dL_law_1236 (by decide) ?_
  refine lv_iadd (pc := 1237) hx hb dL_law_1237 ?_
  refine W.eq (g2 := F0 m 1238 ls [.int (nI (i + 2)), .ref b, .int (xs (nI (i + 1)).toNatClampNeg), .ref b0, .int r]) (by rw [lw_i]) ?_
  refine va_sld (pc := 1238) hx hb hX hbl hbA hS (vp_in_nI (by omega) (by omega)) dL_law_1238 ?_
  refine lv_aload_n (pc := 1239) hx hb dL_law_1239 rfl (lv_at hl 0 rfl) ?_
  refine lv_iload_n (pc := 1240) hx hb dL_law_1240 rfl (lv_at hl 3 rfl) ?_
  refine lv_iconst (pc := 1241) (v := nI 3) hx hb dL_law_1241 (by decide) ?_
  refine lv_iadd (pc := 1242) hx hb dL_law_1242 ?_
  refine W.eq (g2 := F0 m 1243 ls [.int (nI (i + 3)), .ref b, .int (xs (nI (i + 2)).toNatClampNeg), .int (xs (nI (i + 1)).toNatClampNeg), .ref b0, .int r]) (by rw [lw_i]) ?_
  refine va_sld (pc := 1243) hx hb hX hbl hbA hS (vp_in_nI (by omega) (by omega)) dL_law_1243 ?_
  refine lv_aload_n (pc := 1244) hx hb dL_law_1244 rfl (lv_at hl 0 rfl) ?_
  refine lv_iload_n (pc := 1245) hx hb dL_law_1245 rfl (lv_at hl 3 rfl) ?_
  refine lv_iconst (pc := 1246) (v := nI 4) hx hb dL_law_1246 (by decide) ?_
  refine lv_iadd (pc := 1247) hx hb dL_law_1247 ?_
  refine W.eq (g2 := F0 m 1248 ls [.int (nI (i + 4)), .ref b, .int (xs (nI (i + 3)).toNatClampNeg), .int (xs (nI (i + 2)).toNatClampNeg), .int (xs (nI (i + 1)).toNatClampNeg), .ref b0, .int r]) (by rw [lw_i]) ?_
  refine va_sld (pc := 1248) hx hb hX hbl hbA hS (vp_in_nI (by omega) (by omega)) dL_law_1248 ?_
  refine lv_aload_n (pc := 1249) hx hb dL_law_1249 rfl (lv_at hl 0 rfl) ?_
  refine lv_iload_n (pc := 1250) hx hb dL_law_1250 rfl (lv_at hl 3 rfl) ?_
  refine lv_iconst (pc := 1251) (v := nI 5) hx hb dL_law_1251 (by decide) ?_
  refine lv_iadd (pc := 1252) hx hb dL_law_1252 ?_
  refine W.eq (g2 := F0 m 1253 ls [.int (nI (i + 5)), .ref b, .int (xs (nI (i + 4)).toNatClampNeg), .int (xs (nI (i + 3)).toNatClampNeg), .int (xs (nI (i + 2)).toNatClampNeg), .int (xs (nI (i + 1)).toNatClampNeg), .ref b0, .int r]) (by rw [lw_i]) ?_
  refine va_sld (pc := 1253) hx hb hX hbl hbA hS (vp_in_nI (by omega) (by omega)) dL_law_1253 ?_
  refine pv_vRWk (pc := 1254) (rest := [.int r]) (st1 := [.int r, .int r]) (ws := pv_wM E b0 b1 b2 b3 b4 b5 b6 b7 b8 b9 b10 mm) (w1 := pv_wM E b0 b1 b2 b3 b4 b5 b6 b7 b8 b9 b10 m2) [.int (xs (nI (i + 1)).toNatClampNeg), .int (xs (nI (i + 2)).toNatClampNeg), .int (xs (nI (i + 3)).toNatClampNeg), .int (xs (nI (i + 4)).toNatClampNeg), .int (xs (nI (i + 5)).toNatClampNeg)] ⟨hx, hb, hml, hown, hts⟩ hE hA hS hPb (hDb mm) (c_X7_copy l E b0 b1 b2 b3 b4 b5 b6 b7 b8 b9 b10 (xs (nI (i + 1)).toNatClampNeg) (xs (nI (i + 2)).toNatClampNeg) (xs (nI (i + 3)).toNatClampNeg) (xs (nI (i + 4)).toNatClampNeg) (xs (nI (i + 5)).toNatClampNeg) mm (r, m2) h2) (cwV 5 hts gL_law_X7_copy rfl rfl rfl (by decide +kernel) ⟨(Nat.le_of_ble_eq_true rfl), (Nat.le_of_ble_eq_true rfl)⟩) (va_recv hK hPb (ci := 5) (q0 := 0) rfl rfl) rfl hl.1 rfl rfl (Nat.le_of_ble_eq_true rfl) dL_law_1254 ⟨(Nat.le_of_ble_eq_true rfl), (Nat.le_of_ble_eq_true rfl)⟩ (fun H1 locs hP1 hk hS => ?_)
  have hPb := hP1
  have hPa := pv_frame hPa (fun i j p q hp hq e => hXM x2 mm j i q p hq hp e.symm) hk
  generalize H1 = H at hPa hPb hS ⊢
  refine lv_icmp_eq (pc := 1257) (tgt := 1446) hx hb dL_law_1257 (by decide) (fun _ => ?_) (fun c9 => absurd rfl c9)
  exact K H locs ls hPa hPb hS hl
set_option maxHeartbeats 4000000 in
set_option maxRecDepth 100000 in
theorem law_c33 {p : Program} {l : Launch} {e : Env} {s : State} {m : MethodId} {below : List Frame} {meth : Method} {c : Code} {b L : Nat} {xs : Nat → Int32} {E : pv_E} {a : Nat → Nat} {b0 b1 b2 b3 b4 b5 b6 b7 b8 b9 b10 : Nat} (C0 : lw_C p s m meth c b L xs E a b0 b1 b2 b3 b4 b5 b6 b7 b8 b9 b10) (hL : L ≤ 3072) (i : Nat) (hi : i + 6 ≤ L) (Q : State → Prop) (x x2 : pv_XT) (mm m2 : pv_MT) (r : Int32) (h1 : m_X6_lays (xs (nI (i + 1)).toNatClampNeg) x = some (r, x2)) (h2 : m_X7_lays (xs (nI (i + 1)).toNatClampNeg) mm = some (r, m2))
    (K : ∀ (H : Heap) (locs : List Loc) (ls : Array Slot), va_P E.1 vwCl (pv_wX E a x2) H → va_P E.1 vwCl (pv_wM E b0 b1 b2 b3 b4 b5 b6 b7 b8 b9 b10 m2) H → va_S (fun q : Nat => s.heap.size ≤ q) s.heap H locs → lv_has ls 4 [(0, .ref b), (1, .ref (a 0)), (2, .ref b0), (3, .int (nI i))] → W p l e room_1 s m #[Value.ref b] below meth c H locs 48 871 Q (F0 m 1446 ls [])) : ∀ (H : Heap) (locs : List Loc) (ls : Array Slot), va_P E.1 vwCl (pv_wX E a x) H → va_P E.1 vwCl (pv_wM E b0 b1 b2 b3 b4 b5 b6 b7 b8 b9 b10 mm) H → va_S (fun q : Nat => s.heap.size ≤ q) s.heap H locs → lv_has ls 4 [(0, .ref b), (1, .ref (a 0)), (2, .ref b0), (3, .int (nI i))] → W p l e room_1 s m #[Value.ref b] below meth c H locs 48 871 Q (F0 m 1262 ls []) := by
  obtain ⟨hx, hb, hml, hown, hts, hX, hbl, hE, hDa, hDb, hXM⟩ := C0
  have hK := hE.1
  have hA : ∀ q : Nat, s.heap.size ≤ q → (fun q : Nat => s.heap.size ≤ q) q := fun _ h => h
  have hbA : ¬ (fun q : Nat => s.heap.size ≤ q) b := Nat.not_le.mpr hbl
  intro H locs ls hPa hPb hS hl
  refine lv_aload_n (pc := 1262) hx hb dL_law_1262 rfl (lv_at hl 1 rfl) ?_
  refine lv_aload_n (pc := 1263) hx hb dL_law_1263 rfl (lv_at hl 0 rfl) ?_
  refine lv_iload_n (pc := 1264) hx hb dL_law_1264 rfl (lv_at hl 3 rfl) ?_
  refine lv_iconst (pc := 1265) (v := nI 1) hx hb dL_law_1265 (by decide) ?_
  refine lv_iadd (pc := 1266) hx hb dL_law_1266 ?_
  refine W.eq (g2 := F0 m 1267 ls [.int (nI (i + 1)), .ref b, .ref (a 0)]) (by rw [lw_i]) ?_
  refine va_sld (pc := 1267) hx hb hX hbl hbA hS (vp_in_nI (by omega) (by omega)) dL_law_1267 ?_
  refine pv_vRWk (pc := 1268) (rest := []) (st1 := [.int r]) (ws := pv_wX E a x) (w1 := pv_wX E a x2) [.int (xs (nI (i + 1)).toNatClampNeg)] ⟨hx, hb, hml, hown, hts⟩ hE hA hS hPa (hDa x) (c_X6_lays l E a (xs (nI (i + 1)).toNatClampNeg) x (r, x2) h1) (cwV 1 hts gL_law_X6_lays rfl rfl rfl (by decide +kernel) ⟨(Nat.le_of_ble_eq_true rfl), (Nat.le_of_ble_eq_true rfl)⟩) (va_recv hK hPa (ci := 4) (q0 := 0) rfl rfl) rfl hl.1 rfl rfl (Nat.le_of_ble_eq_true rfl) dL_law_1268 ⟨(Nat.le_of_ble_eq_true rfl), (Nat.le_of_ble_eq_true rfl)⟩ (fun H1 locs hP1 hk hS => ?_)
  have hPa := hP1
  have hPb := pv_frame hPb (hXM x mm) hk
  generalize H1 = H at hPa hPb hS ⊢
  refine lv_aload_n (pc := 1271) hx hb dL_law_1271 rfl (lv_at hl 2 rfl) ?_
  refine lv_aload_n (pc := 1272) hx hb dL_law_1272 rfl (lv_at hl 0 rfl) ?_
  refine lv_iload_n (pc := 1273) hx hb dL_law_1273 rfl (lv_at hl 3 rfl) ?_
  refine lv_iconst (pc := 1274) (v := nI 1) hx hb dL_law_1274 (by decide) ?_
  refine lv_iadd (pc := 1275) hx hb dL_law_1275 ?_
  refine W.eq (g2 := F0 m 1276 ls [.int (nI (i + 1)), .ref b, .ref b0, .int r]) (by rw [lw_i]) ?_
  refine va_sld (pc := 1276) hx hb hX hbl hbA hS (vp_in_nI (by omega) (by omega)) dL_law_1276 ?_
  refine pv_vRWk (pc := 1277) (rest := [.int r]) (st1 := [.int r, .int r]) (ws := pv_wM E b0 b1 b2 b3 b4 b5 b6 b7 b8 b9 b10 mm) (w1 := pv_wM E b0 b1 b2 b3 b4 b5 b6 b7 b8 b9 b10 m2) [.int (xs (nI (i + 1)).toNatClampNeg)] ⟨hx, hb, hml, hown, hts⟩ hE hA hS hPb (hDb mm) (c_X7_lays l E b0 b1 b2 b3 b4 b5 b6 b7 b8 b9 b10 (xs (nI (i + 1)).toNatClampNeg) mm (r, m2) h2) (cwV 1 hts gL_law_X7_lays rfl rfl rfl (by decide +kernel) ⟨(Nat.le_of_ble_eq_true rfl), (Nat.le_of_ble_eq_true rfl)⟩) (va_recv hK hPb (ci := 5) (q0 := 0) rfl rfl) rfl hl.1 rfl rfl (Nat.le_of_ble_eq_true rfl) dL_law_1277 ⟨(Nat.le_of_ble_eq_true rfl), (Nat.le_of_ble_eq_true rfl)⟩ (fun H1 locs hP1 hk hS => ?_)
  have hPb := hP1
  have hPa := pv_frame hPa (fun i j p q hp hq e => hXM x2 mm j i q p hq hp e.symm) hk
  generalize H1 = H at hPa hPb hS ⊢
  refine lv_icmp_eq (pc := 1280) (tgt := 1446) hx hb dL_law_1280 (by decide) (fun _ => ?_) (fun c9 => absurd rfl c9)
  exact K H locs ls hPa hPb hS hl
set_option maxHeartbeats 4000000 in
set_option maxRecDepth 100000 in
theorem law_c34 {p : Program} {l : Launch} {e : Env} {s : State} {m : MethodId} {below : List Frame} {meth : Method} {c : Code} {b L : Nat} {xs : Nat → Int32} {E : pv_E} {a : Nat → Nat} {b0 b1 b2 b3 b4 b5 b6 b7 b8 b9 b10 : Nat} (C0 : lw_C p s m meth c b L xs E a b0 b1 b2 b3 b4 b5 b6 b7 b8 b9 b10) (hL : L ≤ 3072) (i : Nat) (hi : i + 6 ≤ L) (Q : State → Prop) (x x2 : pv_XT) (mm m2 : pv_MT) (r : Int32) (h1 : m_X6_book (xs (nI (i + 1)).toNatClampNeg) (xs (nI (i + 2)).toNatClampNeg) x = some (r, x2)) (h2 : m_X7_book (xs (nI (i + 1)).toNatClampNeg) (xs (nI (i + 2)).toNatClampNeg) mm = some (r, m2))
    (K : ∀ (H : Heap) (locs : List Loc) (ls : Array Slot), va_P E.1 vwCl (pv_wX E a x2) H → va_P E.1 vwCl (pv_wM E b0 b1 b2 b3 b4 b5 b6 b7 b8 b9 b10 m2) H → va_S (fun q : Nat => s.heap.size ≤ q) s.heap H locs → lv_has ls 4 [(0, .ref b), (1, .ref (a 0)), (2, .ref b0), (3, .int (nI i))] → W p l e room_1 s m #[Value.ref b] below meth c H locs 48 871 Q (F0 m 1446 ls [])) : ∀ (H : Heap) (locs : List Loc) (ls : Array Slot), va_P E.1 vwCl (pv_wX E a x) H → va_P E.1 vwCl (pv_wM E b0 b1 b2 b3 b4 b5 b6 b7 b8 b9 b10 mm) H → va_S (fun q : Nat => s.heap.size ≤ q) s.heap H locs → lv_has ls 4 [(0, .ref b), (1, .ref (a 0)), (2, .ref b0), (3, .int (nI i))] → W p l e room_1 s m #[Value.ref b] below meth c H locs 48 871 Q (F0 m 1285 ls []) := by
  obtain ⟨hx, hb, hml, hown, hts, hX, hbl, hE, hDa, hDb, hXM⟩ := C0
  have hK := hE.1
  have hA : ∀ q : Nat, s.heap.size ≤ q → (fun q : Nat => s.heap.size ≤ q) q := fun _ h => h
  have hbA : ¬ (fun q : Nat => s.heap.size ≤ q) b := Nat.not_le.mpr hbl
  intro H locs ls hPa hPb hS hl
  refine lv_aload_n (pc := 1285) hx hb dL_law_1285 rfl (lv_at hl 1 rfl) ?_
  refine lv_aload_n (pc := 1286) hx hb dL_law_1286 rfl (lv_at hl 0 rfl) ?_
  refine lv_iload_n (pc := 1287) hx hb dL_law_1287 rfl (lv_at hl 3 rfl) ?_
  refine lv_iconst (pc := 1288) (v := nI 1) hx hb dL_law_1288 (by decide) ?_
  refine lv_iadd (pc := 1289) hx hb dL_law_1289 ?_
  refine W.eq (g2 := F0 m 1290 ls [.int (nI (i + 1)), .ref b, .ref (a 0)]) (by rw [lw_i]) ?_
  refine va_sld (pc := 1290) hx hb hX hbl hbA hS (vp_in_nI (by omega) (by omega)) dL_law_1290 ?_
  refine lv_aload_n (pc := 1291) hx hb dL_law_1291 rfl (lv_at hl 0 rfl) ?_
  refine lv_iload_n (pc := 1292) hx hb dL_law_1292 rfl (lv_at hl 3 rfl) ?_
  refine lv_iconst (pc := 1293) (v := nI 2) hx hb dL_law_1293 (by decide) ?_
  refine lv_iadd (pc := 1294) hx hb dL_law_1294 ?_
  refine W.eq (g2 := F0 m 1295 ls [.int (nI (i + 2)), .ref b, .int (xs (nI (i + 1)).toNatClampNeg), .ref (a 0)]) (by rw [lw_i]) ?_
  refine va_sld (pc := 1295) hx hb hX hbl hbA hS (vp_in_nI (by omega) (by omega)) dL_law_1295 ?_
  refine pv_vRWk (pc := 1296) (rest := []) (st1 := [.int r]) (ws := pv_wX E a x) (w1 := pv_wX E a x2) [.int (xs (nI (i + 1)).toNatClampNeg), .int (xs (nI (i + 2)).toNatClampNeg)] ⟨hx, hb, hml, hown, hts⟩ hE hA hS hPa (hDa x) (c_X6_book l E a (xs (nI (i + 1)).toNatClampNeg) (xs (nI (i + 2)).toNatClampNeg) x (r, x2) h1) (cwV 2 hts gL_law_X6_book rfl rfl rfl (by decide +kernel) ⟨(Nat.le_of_ble_eq_true rfl), (Nat.le_of_ble_eq_true rfl)⟩) (va_recv hK hPa (ci := 4) (q0 := 0) rfl rfl) rfl hl.1 rfl rfl (Nat.le_of_ble_eq_true rfl) dL_law_1296 ⟨(Nat.le_of_ble_eq_true rfl), (Nat.le_of_ble_eq_true rfl)⟩ (fun H1 locs hP1 hk hS => ?_)
  have hPa := hP1
  have hPb := pv_frame hPb (hXM x mm) hk
  generalize H1 = H at hPa hPb hS ⊢
  refine lv_aload_n (pc := 1299) hx hb dL_law_1299 rfl (lv_at hl 2 rfl) ?_
  refine lv_aload_n (pc := 1300) hx hb dL_law_1300 rfl (lv_at hl 0 rfl) ?_
  refine lv_iload_n (pc := 1301) hx hb dL_law_1301 rfl (lv_at hl 3 rfl) ?_
  refine lv_iconst (pc := 1302) (v := nI 1) hx hb dL_law_1302 (by decide) ?_
  refine lv_iadd (pc := 1303) hx hb dL_law_1303 ?_
  refine W.eq (g2 := F0 m 1304 ls [.int (nI (i + 1)), .ref b, .ref b0, .int r]) (by rw [lw_i]) ?_
  refine va_sld (pc := 1304) hx hb hX hbl hbA hS (vp_in_nI (by omega) (by omega)) dL_law_1304 ?_
  refine lv_aload_n (pc := 1305) hx hb dL_law_1305 rfl (lv_at hl 0 rfl) ?_
  refine lv_iload_n (pc := 1306) hx hb dL_law_1306 rfl (lv_at hl 3 rfl) ?_
  refine lv_iconst (pc := 1307) (v := nI 2) hx hb dL_law_1307 (by decide) ?_
  refine lv_iadd (pc := 1308) hx hb dL_law_1308 ?_
  refine W.eq (g2 := F0 m 1309 ls [.int (nI (i + 2)), .ref b, .int (xs (nI (i + 1)).toNatClampNeg), .ref b0, .int r]) (by rw [lw_i]) ?_
  refine va_sld (pc := 1309) hx hb hX hbl hbA hS (vp_in_nI (by omega) (by omega)) dL_law_1309 ?_
  refine pv_vRWk (pc := 1310) (rest := [.int r]) (st1 := [.int r, .int r]) (ws := pv_wM E b0 b1 b2 b3 b4 b5 b6 b7 b8 b9 b10 mm) (w1 := pv_wM E b0 b1 b2 b3 b4 b5 b6 b7 b8 b9 b10 m2) [.int (xs (nI (i + 1)).toNatClampNeg), .int (xs (nI (i + 2)).toNatClampNeg)] ⟨hx, hb, hml, hown, hts⟩ hE hA hS hPb (hDb mm) (c_X7_book l E b0 b1 b2 b3 b4 b5 b6 b7 b8 b9 b10 (xs (nI (i + 1)).toNatClampNeg) (xs (nI (i + 2)).toNatClampNeg) mm (r, m2) h2) (cwV 2 hts gL_law_X7_book rfl rfl rfl (by decide +kernel) ⟨(Nat.le_of_ble_eq_true rfl), (Nat.le_of_ble_eq_true rfl)⟩) (va_recv hK hPb (ci := 5) (q0 := 0) rfl rfl) rfl hl.1 rfl rfl (Nat.le_of_ble_eq_true rfl) dL_law_1310 ⟨(Nat.le_of_ble_eq_true rfl), (Nat.le_of_ble_eq_true rfl)⟩ (fun H1 locs hP1 hk hS => ?_)
  have hPb := hP1
  have hPa := pv_frame hPa (fun i j p q hp hq e => hXM x2 mm j i q p hq hp e.symm) hk
  generalize H1 = H at hPa hPb hS ⊢
  refine lv_icmp_eq (pc := 1313) (tgt := 1446) hx hb dL_law_1313 (by decide) (fun _ => ?_) (fun c9 => absurd rfl c9)
  exact K H locs ls hPa hPb hS hl
set_option maxHeartbeats 4000000 in
set_option maxRecDepth 100000 in
theorem law_c35 {p : Program} {l : Launch} {e : Env} {s : State} {m : MethodId} {below : List Frame} {meth : Method} {c : Code} {b L : Nat} {xs : Nat → Int32} {E : pv_E} {a : Nat → Nat} {b0 b1 b2 b3 b4 b5 b6 b7 b8 b9 b10 : Nat} (C0 : lw_C p s m meth c b L xs E a b0 b1 b2 b3 b4 b5 b6 b7 b8 b9 b10) (hL : L ≤ 3072) (i : Nat) (hi : i + 6 ≤ L) (Q : State → Prop) (x x2 : pv_XT) (mm m2 : pv_MT) (r : Int32) (h1 : m_X6_read (xs (nI (i + 1)).toNatClampNeg) (xs (nI (i + 2)).toNatClampNeg) (xs (nI (i + 3)).toNatClampNeg) x = some (r, x2)) (h2 : m_X7_read (xs (nI (i + 1)).toNatClampNeg) (xs (nI (i + 2)).toNatClampNeg) (xs (nI (i + 3)).toNatClampNeg) mm = some (r, m2))
    (K : ∀ (H : Heap) (locs : List Loc) (ls : Array Slot), va_P E.1 vwCl (pv_wX E a x2) H → va_P E.1 vwCl (pv_wM E b0 b1 b2 b3 b4 b5 b6 b7 b8 b9 b10 m2) H → va_S (fun q : Nat => s.heap.size ≤ q) s.heap H locs → lv_has ls 4 [(0, .ref b), (1, .ref (a 0)), (2, .ref b0), (3, .int (nI i))] → W p l e room_1 s m #[Value.ref b] below meth c H locs 48 871 Q (F0 m 1446 ls [])) : ∀ (H : Heap) (locs : List Loc) (ls : Array Slot), va_P E.1 vwCl (pv_wX E a x) H → va_P E.1 vwCl (pv_wM E b0 b1 b2 b3 b4 b5 b6 b7 b8 b9 b10 mm) H → va_S (fun q : Nat => s.heap.size ≤ q) s.heap H locs → lv_has ls 4 [(0, .ref b), (1, .ref (a 0)), (2, .ref b0), (3, .int (nI i))] → W p l e room_1 s m #[Value.ref b] below meth c H locs 48 871 Q (F0 m 1318 ls []) := by
  obtain ⟨hx, hb, hml, hown, hts, hX, hbl, hE, hDa, hDb, hXM⟩ := C0
  have hK := hE.1
  have hA : ∀ q : Nat, s.heap.size ≤ q → (fun q : Nat => s.heap.size ≤ q) q := fun _ h => h
  have hbA : ¬ (fun q : Nat => s.heap.size ≤ q) b := Nat.not_le.mpr hbl
  intro H locs ls hPa hPb hS hl
  refine lv_aload_n (pc := 1318) hx hb dL_law_1318 rfl (lv_at hl 1 rfl) ?_
  refine lv_aload_n (pc := 1319) hx hb dL_law_1319 rfl (lv_at hl 0 rfl) ?_
  refine lv_iload_n (pc := 1320) hx hb dL_law_1320 rfl (lv_at hl 3 rfl) ?_
  refine lv_iconst (pc := 1321) (v := nI 1) hx hb dL_law_1321 (by decide) ?_
  refine lv_iadd (pc := 1322) hx hb dL_law_1322 ?_
  refine W.eq (g2 := F0 m 1323 ls [.int (nI (i + 1)), .ref b, .ref (a 0)]) (by rw [lw_i]) ?_
  refine va_sld (pc := 1323) hx hb hX hbl hbA hS (vp_in_nI (by omega) (by omega)) dL_law_1323 ?_
  refine lv_aload_n (pc := 1324) hx hb dL_law_1324 rfl (lv_at hl 0 rfl) ?_
  refine lv_iload_n (pc := 1325) hx hb dL_law_1325 rfl (lv_at hl 3 rfl) ?_
  refine lv_iconst (pc := 1326) (v := nI 2) hx hb dL_law_1326 (by decide) ?_
  refine lv_iadd (pc := 1327) hx hb dL_law_1327 ?_
  refine W.eq (g2 := F0 m 1328 ls [.int (nI (i + 2)), .ref b, .int (xs (nI (i + 1)).toNatClampNeg), .ref (a 0)]) (by rw [lw_i]) ?_
  refine va_sld (pc := 1328) hx hb hX hbl hbA hS (vp_in_nI (by omega) (by omega)) dL_law_1328 ?_
  refine lv_aload_n (pc := 1329) hx hb dL_law_1329 rfl (lv_at hl 0 rfl) ?_
  refine lv_iload_n (pc := 1330) hx hb dL_law_1330 rfl (lv_at hl 3 rfl) ?_
  refine lv_iconst (pc := 1331) (v := nI 3) hx hb dL_law_1331 (by decide) ?_
  refine lv_iadd (pc := 1332) hx hb dL_law_1332 ?_
  refine W.eq (g2 := F0 m 1333 ls [.int (nI (i + 3)), .ref b, .int (xs (nI (i + 2)).toNatClampNeg), .int (xs (nI (i + 1)).toNatClampNeg), .ref (a 0)]) (by rw [lw_i]) ?_
  refine va_sld (pc := 1333) hx hb hX hbl hbA hS (vp_in_nI (by omega) (by omega)) dL_law_1333 ?_
  refine pv_vRWk (pc := 1334) (rest := []) (st1 := [.int r]) (ws := pv_wX E a x) (w1 := pv_wX E a x2) [.int (xs (nI (i + 1)).toNatClampNeg), .int (xs (nI (i + 2)).toNatClampNeg), .int (xs (nI (i + 3)).toNatClampNeg)] ⟨hx, hb, hml, hown, hts⟩ hE hA hS hPa (hDa x) (c_X6_read l E a (xs (nI (i + 1)).toNatClampNeg) (xs (nI (i + 2)).toNatClampNeg) (xs (nI (i + 3)).toNatClampNeg) x (r, x2) h1) (cwV 3 hts gL_law_X6_read rfl rfl rfl (by decide +kernel) ⟨(Nat.le_of_ble_eq_true rfl), (Nat.le_of_ble_eq_true rfl)⟩) (va_recv hK hPa (ci := 4) (q0 := 0) rfl rfl) rfl hl.1 rfl rfl (Nat.le_of_ble_eq_true rfl) dL_law_1334 ⟨(Nat.le_of_ble_eq_true rfl), (Nat.le_of_ble_eq_true rfl)⟩ (fun H1 locs hP1 hk hS => ?_)
  have hPa := hP1
  have hPb := pv_frame hPb (hXM x mm) hk
  generalize H1 = H at hPa hPb hS ⊢
  refine lv_aload_n (pc := 1337) hx hb dL_law_1337 rfl (lv_at hl 2 rfl) ?_
  refine lv_aload_n (pc := 1338) hx hb dL_law_1338 rfl (lv_at hl 0 rfl) ?_
  refine lv_iload_n (pc := 1339) hx hb dL_law_1339 rfl (lv_at hl 3 rfl) ?_
  refine lv_iconst (pc := 1340) (v := nI 1) hx hb dL_law_1340 (by decide) ?_
  refine lv_iadd (pc := 1341) hx hb dL_law_1341 ?_
  refine W.eq (g2 := F0 m 1342 ls [.int (nI (i + 1)), .ref b, .ref b0, .int r]) (by rw [lw_i]) ?_
  refine va_sld (pc := 1342) hx hb hX hbl hbA hS (vp_in_nI (by omega) (by omega)) dL_law_1342 ?_
  refine lv_aload_n (pc := 1343) hx hb dL_law_1343 rfl (lv_at hl 0 rfl) ?_
  refine lv_iload_n (pc := 1344) hx hb dL_law_1344 rfl (lv_at hl 3 rfl) ?_
  refine lv_iconst (pc := 1345) (v := nI 2) hx hb dL_law_1345 (by decide) ?_
  refine lv_iadd (pc := 1346) hx hb dL_law_1346 ?_
  refine W.eq (g2 := F0 m 1347 ls [.int (nI (i + 2)), .ref b, .int (xs (nI (i + 1)).toNatClampNeg), .ref b0, .int r]) (by rw [lw_i]) ?_
  refine va_sld (pc := 1347) hx hb hX hbl hbA hS (vp_in_nI (by omega) (by omega)) dL_law_1347 ?_
  refine lv_aload_n (pc := 1348) hx hb dL_law_1348 rfl (lv_at hl 0 rfl) ?_
  refine lv_iload_n (pc := 1349) hx hb dL_law_1349 rfl (lv_at hl 3 rfl) ?_
  refine lv_iconst (pc := 1350) (v := nI 3) hx hb dL_law_1350 (by decide) ?_
  refine lv_iadd (pc := 1351) hx hb dL_law_1351 ?_
  refine W.eq (g2 := F0 m 1352 ls [.int (nI (i + 3)), .ref b, .int (xs (nI (i + 2)).toNatClampNeg), .int (xs (nI (i + 1)).toNatClampNeg), .ref b0, .int r]) (by rw [lw_i]) ?_
  refine va_sld (pc := 1352) hx hb hX hbl hbA hS (vp_in_nI (by omega) (by omega)) dL_law_1352 ?_
  refine pv_vRWk (pc := 1353) (rest := [.int r]) (st1 := [.int r, .int r]) (ws := pv_wM E b0 b1 b2 b3 b4 b5 b6 b7 b8 b9 b10 mm) (w1 := pv_wM E b0 b1 b2 b3 b4 b5 b6 b7 b8 b9 b10 m2) [.int (xs (nI (i + 1)).toNatClampNeg), .int (xs (nI (i + 2)).toNatClampNeg), .int (xs (nI (i + 3)).toNatClampNeg)] ⟨hx, hb, hml, hown, hts⟩ hE hA hS hPb (hDb mm) (c_X7_read l E b0 b1 b2 b3 b4 b5 b6 b7 b8 b9 b10 (xs (nI (i + 1)).toNatClampNeg) (xs (nI (i + 2)).toNatClampNeg) (xs (nI (i + 3)).toNatClampNeg) mm (r, m2) h2) (cwV 3 hts gL_law_X7_read rfl rfl rfl (by decide +kernel) ⟨(Nat.le_of_ble_eq_true rfl), (Nat.le_of_ble_eq_true rfl)⟩) (va_recv hK hPb (ci := 5) (q0 := 0) rfl rfl) rfl hl.1 rfl rfl (Nat.le_of_ble_eq_true rfl) dL_law_1353 ⟨(Nat.le_of_ble_eq_true rfl), (Nat.le_of_ble_eq_true rfl)⟩ (fun H1 locs hP1 hk hS => ?_)
  have hPb := hP1
  have hPa := pv_frame hPa (fun i j p q hp hq e => hXM x2 mm j i q p hq hp e.symm) hk
  generalize H1 = H at hPa hPb hS ⊢
  refine lv_icmp_eq (pc := 1356) (tgt := 1446) hx hb dL_law_1356 (by decide) (fun _ => ?_) (fun c9 => absurd rfl c9)
  exact K H locs ls hPa hPb hS hl
set_option maxHeartbeats 4000000 in
set_option maxRecDepth 100000 in
theorem law_c36 {p : Program} {l : Launch} {e : Env} {s : State} {m : MethodId} {below : List Frame} {meth : Method} {c : Code} {b L : Nat} {xs : Nat → Int32} {E : pv_E} {a : Nat → Nat} {b0 b1 b2 b3 b4 b5 b6 b7 b8 b9 b10 : Nat} (C0 : lw_C p s m meth c b L xs E a b0 b1 b2 b3 b4 b5 b6 b7 b8 b9 b10) (hL : L ≤ 3072) (i : Nat) (hi : i + 6 ≤ L) (Q : State → Prop) (x x2 : pv_XT) (mm m2 : pv_MT) (r : Int32) (h1 : m_X6_image  x = some (r, x2)) (h2 : m_X7_image  mm = some (r, m2))
    (K : ∀ (H : Heap) (locs : List Loc) (ls : Array Slot), va_P E.1 vwCl (pv_wX E a x2) H → va_P E.1 vwCl (pv_wM E b0 b1 b2 b3 b4 b5 b6 b7 b8 b9 b10 m2) H → va_S (fun q : Nat => s.heap.size ≤ q) s.heap H locs → lv_has ls 4 [(0, .ref b), (1, .ref (a 0)), (2, .ref b0), (3, .int (nI i))] → W p l e room_1 s m #[Value.ref b] below meth c H locs 48 871 Q (F0 m 1446 ls [])) : ∀ (H : Heap) (locs : List Loc) (ls : Array Slot), va_P E.1 vwCl (pv_wX E a x) H → va_P E.1 vwCl (pv_wM E b0 b1 b2 b3 b4 b5 b6 b7 b8 b9 b10 mm) H → va_S (fun q : Nat => s.heap.size ≤ q) s.heap H locs → lv_has ls 4 [(0, .ref b), (1, .ref (a 0)), (2, .ref b0), (3, .int (nI i))] → W p l e room_1 s m #[Value.ref b] below meth c H locs 48 871 Q (F0 m 1361 ls []) := by
  obtain ⟨hx, hb, hml, hown, hts, hX, hbl, hE, hDa, hDb, hXM⟩ := C0
  have hK := hE.1
  have hA : ∀ q : Nat, s.heap.size ≤ q → (fun q : Nat => s.heap.size ≤ q) q := fun _ h => h
  have hbA : ¬ (fun q : Nat => s.heap.size ≤ q) b := Nat.not_le.mpr hbl
  intro H locs ls hPa hPb hS hl
  refine lv_aload_n (pc := 1361) hx hb dL_law_1361 rfl (lv_at hl 1 rfl) ?_
  refine pv_vRWk (pc := 1362) (rest := []) (st1 := [.int r]) (ws := pv_wX E a x) (w1 := pv_wX E a x2) [] ⟨hx, hb, hml, hown, hts⟩ hE hA hS hPa (hDa x) (c_X6_image l E a  x (r, x2) h1) (cwV 0 hts gL_law_X6_image rfl rfl rfl (by decide +kernel) ⟨(Nat.le_of_ble_eq_true rfl), (Nat.le_of_ble_eq_true rfl)⟩) (va_recv hK hPa (ci := 4) (q0 := 0) rfl rfl) rfl hl.1 rfl rfl (Nat.le_of_ble_eq_true rfl) dL_law_1362 ⟨(Nat.le_of_ble_eq_true rfl), (Nat.le_of_ble_eq_true rfl)⟩ (fun H1 locs hP1 hk hS => ?_)
  have hPa := hP1
  have hPb := pv_frame hPb (hXM x mm) hk
  generalize H1 = H at hPa hPb hS ⊢
  refine lv_aload_n (pc := 1365) hx hb dL_law_1365 rfl (lv_at hl 2 rfl) ?_
  refine pv_vRWk (pc := 1366) (rest := [.int r]) (st1 := [.int r, .int r]) (ws := pv_wM E b0 b1 b2 b3 b4 b5 b6 b7 b8 b9 b10 mm) (w1 := pv_wM E b0 b1 b2 b3 b4 b5 b6 b7 b8 b9 b10 m2) [] ⟨hx, hb, hml, hown, hts⟩ hE hA hS hPb (hDb mm) (c_X7_image l E b0 b1 b2 b3 b4 b5 b6 b7 b8 b9 b10  mm (r, m2) h2) (cwV 0 hts gL_law_X7_image rfl rfl rfl (by decide +kernel) ⟨(Nat.le_of_ble_eq_true rfl), (Nat.le_of_ble_eq_true rfl)⟩) (va_recv hK hPb (ci := 5) (q0 := 0) rfl rfl) rfl hl.1 rfl rfl (Nat.le_of_ble_eq_true rfl) dL_law_1366 ⟨(Nat.le_of_ble_eq_true rfl), (Nat.le_of_ble_eq_true rfl)⟩ (fun H1 locs hP1 hk hS => ?_)
  have hPb := hP1
  have hPa := pv_frame hPa (fun i j p q hp hq e => hXM x2 mm j i q p hq hp e.symm) hk
  generalize H1 = H at hPa hPb hS ⊢
  refine lv_icmp_eq (pc := 1369) (tgt := 1446) hx hb dL_law_1369 (by decide) (fun _ => ?_) (fun c9 => absurd rfl c9)
  exact K H locs ls hPa hPb hS hl
set_option maxHeartbeats 4000000 in
set_option maxRecDepth 100000 in
theorem law_c37 {p : Program} {l : Launch} {e : Env} {s : State} {m : MethodId} {below : List Frame} {meth : Method} {c : Code} {b L : Nat} {xs : Nat → Int32} {E : pv_E} {a : Nat → Nat} {b0 b1 b2 b3 b4 b5 b6 b7 b8 b9 b10 : Nat} (C0 : lw_C p s m meth c b L xs E a b0 b1 b2 b3 b4 b5 b6 b7 b8 b9 b10) (hL : L ≤ 3072) (i : Nat) (hi : i + 6 ≤ L) (Q : State → Prop) (x x2 : pv_XT) (mm m2 : pv_MT) (r : Int32) (h1 : m_X6_undo  x = some (r, x2)) (h2 : m_X7_undo  mm = some (r, m2))
    (K : ∀ (H : Heap) (locs : List Loc) (ls : Array Slot), va_P E.1 vwCl (pv_wX E a x2) H → va_P E.1 vwCl (pv_wM E b0 b1 b2 b3 b4 b5 b6 b7 b8 b9 b10 m2) H → va_S (fun q : Nat => s.heap.size ≤ q) s.heap H locs → lv_has ls 4 [(0, .ref b), (1, .ref (a 0)), (2, .ref b0), (3, .int (nI i))] → W p l e room_1 s m #[Value.ref b] below meth c H locs 48 871 Q (F0 m 1446 ls [])) : ∀ (H : Heap) (locs : List Loc) (ls : Array Slot), va_P E.1 vwCl (pv_wX E a x) H → va_P E.1 vwCl (pv_wM E b0 b1 b2 b3 b4 b5 b6 b7 b8 b9 b10 mm) H → va_S (fun q : Nat => s.heap.size ≤ q) s.heap H locs → lv_has ls 4 [(0, .ref b), (1, .ref (a 0)), (2, .ref b0), (3, .int (nI i))] → W p l e room_1 s m #[Value.ref b] below meth c H locs 48 871 Q (F0 m 1374 ls []) := by
  obtain ⟨hx, hb, hml, hown, hts, hX, hbl, hE, hDa, hDb, hXM⟩ := C0
  have hK := hE.1
  have hA : ∀ q : Nat, s.heap.size ≤ q → (fun q : Nat => s.heap.size ≤ q) q := fun _ h => h
  have hbA : ¬ (fun q : Nat => s.heap.size ≤ q) b := Nat.not_le.mpr hbl
  intro H locs ls hPa hPb hS hl
  refine lv_aload_n (pc := 1374) hx hb dL_law_1374 rfl (lv_at hl 1 rfl) ?_
  refine pv_vRWk (pc := 1375) (rest := []) (st1 := [.int r]) (ws := pv_wX E a x) (w1 := pv_wX E a x2) [] ⟨hx, hb, hml, hown, hts⟩ hE hA hS hPa (hDa x) (c_X6_undo l E a  x (r, x2) h1) (cwV 0 hts gL_law_X6_undo rfl rfl rfl (by decide +kernel) ⟨(Nat.le_of_ble_eq_true rfl), (Nat.le_of_ble_eq_true rfl)⟩) (va_recv hK hPa (ci := 4) (q0 := 0) rfl rfl) rfl hl.1 rfl rfl (Nat.le_of_ble_eq_true rfl) dL_law_1375 ⟨(Nat.le_of_ble_eq_true rfl), (Nat.le_of_ble_eq_true rfl)⟩ (fun H1 locs hP1 hk hS => ?_)
  have hPa := hP1
  have hPb := pv_frame hPb (hXM x mm) hk
  generalize H1 = H at hPa hPb hS ⊢
  refine lv_aload_n (pc := 1378) hx hb dL_law_1378 rfl (lv_at hl 2 rfl) ?_
  refine pv_vRWk (pc := 1379) (rest := [.int r]) (st1 := [.int r, .int r]) (ws := pv_wM E b0 b1 b2 b3 b4 b5 b6 b7 b8 b9 b10 mm) (w1 := pv_wM E b0 b1 b2 b3 b4 b5 b6 b7 b8 b9 b10 m2) [] ⟨hx, hb, hml, hown, hts⟩ hE hA hS hPb (hDb mm) (c_X7_undo l E b0 b1 b2 b3 b4 b5 b6 b7 b8 b9 b10  mm (r, m2) h2) (cwV 0 hts gL_law_X7_undo rfl rfl rfl (by decide +kernel) ⟨(Nat.le_of_ble_eq_true rfl), (Nat.le_of_ble_eq_true rfl)⟩) (va_recv hK hPb (ci := 5) (q0 := 0) rfl rfl) rfl hl.1 rfl rfl (Nat.le_of_ble_eq_true rfl) dL_law_1379 ⟨(Nat.le_of_ble_eq_true rfl), (Nat.le_of_ble_eq_true rfl)⟩ (fun H1 locs hP1 hk hS => ?_)
  have hPb := hP1
  have hPa := pv_frame hPa (fun i j p q hp hq e => hXM x2 mm j i q p hq hp e.symm) hk
  generalize H1 = H at hPa hPb hS ⊢
  refine lv_icmp_eq (pc := 1382) (tgt := 1446) hx hb dL_law_1382 (by decide) (fun _ => ?_) (fun c9 => absurd rfl c9)
  exact K H locs ls hPa hPb hS hl
set_option maxHeartbeats 4000000 in
set_option maxRecDepth 100000 in
theorem law_c38 {p : Program} {l : Launch} {e : Env} {s : State} {m : MethodId} {below : List Frame} {meth : Method} {c : Code} {b L : Nat} {xs : Nat → Int32} {E : pv_E} {a : Nat → Nat} {b0 b1 b2 b3 b4 b5 b6 b7 b8 b9 b10 : Nat} (C0 : lw_C p s m meth c b L xs E a b0 b1 b2 b3 b4 b5 b6 b7 b8 b9 b10) (hL : L ≤ 3072) (i : Nat) (hi : i + 6 ≤ L) (Q : State → Prop) (x x2 : pv_XT) (mm m2 : pv_MT) (r : Int32) (h1 : m_X6_tear  x = some (r, x2)) (h2 : m_X7_tear  mm = some (r, m2))
    (K : ∀ (H : Heap) (locs : List Loc) (ls : Array Slot), va_P E.1 vwCl (pv_wX E a x2) H → va_P E.1 vwCl (pv_wM E b0 b1 b2 b3 b4 b5 b6 b7 b8 b9 b10 m2) H → va_S (fun q : Nat => s.heap.size ≤ q) s.heap H locs → lv_has ls 4 [(0, .ref b), (1, .ref (a 0)), (2, .ref b0), (3, .int (nI i))] → W p l e room_1 s m #[Value.ref b] below meth c H locs 48 871 Q (F0 m 1446 ls [])) : ∀ (H : Heap) (locs : List Loc) (ls : Array Slot), va_P E.1 vwCl (pv_wX E a x) H → va_P E.1 vwCl (pv_wM E b0 b1 b2 b3 b4 b5 b6 b7 b8 b9 b10 mm) H → va_S (fun q : Nat => s.heap.size ≤ q) s.heap H locs → lv_has ls 4 [(0, .ref b), (1, .ref (a 0)), (2, .ref b0), (3, .int (nI i))] → W p l e room_1 s m #[Value.ref b] below meth c H locs 48 871 Q (F0 m 1387 ls []) := by
  obtain ⟨hx, hb, hml, hown, hts, hX, hbl, hE, hDa, hDb, hXM⟩ := C0
  have hK := hE.1
  have hA : ∀ q : Nat, s.heap.size ≤ q → (fun q : Nat => s.heap.size ≤ q) q := fun _ h => h
  have hbA : ¬ (fun q : Nat => s.heap.size ≤ q) b := Nat.not_le.mpr hbl
  intro H locs ls hPa hPb hS hl
  refine lv_aload_n (pc := 1387) hx hb dL_law_1387 rfl (lv_at hl 1 rfl) ?_
  refine pv_vRWk (pc := 1388) (rest := []) (st1 := [.int r]) (ws := pv_wX E a x) (w1 := pv_wX E a x2) [] ⟨hx, hb, hml, hown, hts⟩ hE hA hS hPa (hDa x) (c_X6_tear l E a  x (r, x2) h1) (cwV 0 hts gL_law_X6_tear rfl rfl rfl (by decide +kernel) ⟨(Nat.le_of_ble_eq_true rfl), (Nat.le_of_ble_eq_true rfl)⟩) (va_recv hK hPa (ci := 4) (q0 := 0) rfl rfl) rfl hl.1 rfl rfl (Nat.le_of_ble_eq_true rfl) dL_law_1388 ⟨(Nat.le_of_ble_eq_true rfl), (Nat.le_of_ble_eq_true rfl)⟩ (fun H1 locs hP1 hk hS => ?_)
  have hPa := hP1
  have hPb := pv_frame hPb (hXM x mm) hk
  generalize H1 = H at hPa hPb hS ⊢
  refine lv_aload_n (pc := 1391) hx hb dL_law_1391 rfl (lv_at hl 2 rfl) ?_
  refine pv_vRWk (pc := 1392) (rest := [.int r]) (st1 := [.int r, .int r]) (ws := pv_wM E b0 b1 b2 b3 b4 b5 b6 b7 b8 b9 b10 mm) (w1 := pv_wM E b0 b1 b2 b3 b4 b5 b6 b7 b8 b9 b10 m2) [] ⟨hx, hb, hml, hown, hts⟩ hE hA hS hPb (hDb mm) (c_X7_tear l E b0 b1 b2 b3 b4 b5 b6 b7 b8 b9 b10  mm (r, m2) h2) (cwV 0 hts gL_law_X7_tear rfl rfl rfl (by decide +kernel) ⟨(Nat.le_of_ble_eq_true rfl), (Nat.le_of_ble_eq_true rfl)⟩) (va_recv hK hPb (ci := 5) (q0 := 0) rfl rfl) rfl hl.1 rfl rfl (Nat.le_of_ble_eq_true rfl) dL_law_1392 ⟨(Nat.le_of_ble_eq_true rfl), (Nat.le_of_ble_eq_true rfl)⟩ (fun H1 locs hP1 hk hS => ?_)
  have hPb := hP1
  have hPa := pv_frame hPa (fun i j p q hp hq e => hXM x2 mm j i q p hq hp e.symm) hk
  generalize H1 = H at hPa hPb hS ⊢
  refine lv_icmp_eq (pc := 1395) (tgt := 1446) hx hb dL_law_1395 (by decide) (fun _ => ?_) (fun c9 => absurd rfl c9)
  exact K H locs ls hPa hPb hS hl
set_option maxHeartbeats 4000000 in
set_option maxRecDepth 100000 in
theorem law_c39 {p : Program} {l : Launch} {e : Env} {s : State} {m : MethodId} {below : List Frame} {meth : Method} {c : Code} {b L : Nat} {xs : Nat → Int32} {E : pv_E} {a : Nat → Nat} {b0 b1 b2 b3 b4 b5 b6 b7 b8 b9 b10 : Nat} (C0 : lw_C p s m meth c b L xs E a b0 b1 b2 b3 b4 b5 b6 b7 b8 b9 b10) (hL : L ≤ 3072) (i : Nat) (hi : i + 6 ≤ L) (Q : State → Prop) (x x2 : pv_XT) (mm m2 : pv_MT) (r : Int32) (h1 : m_X6_count (xs (nI (i + 1)).toNatClampNeg) x = some (r, x2)) (h2 : m_X7_count (xs (nI (i + 1)).toNatClampNeg) mm = some (r, m2))
    (K : ∀ (H : Heap) (locs : List Loc) (ls : Array Slot), va_P E.1 vwCl (pv_wX E a x2) H → va_P E.1 vwCl (pv_wM E b0 b1 b2 b3 b4 b5 b6 b7 b8 b9 b10 m2) H → va_S (fun q : Nat => s.heap.size ≤ q) s.heap H locs → lv_has ls 4 [(0, .ref b), (1, .ref (a 0)), (2, .ref b0), (3, .int (nI i))] → W p l e room_1 s m #[Value.ref b] below meth c H locs 48 871 Q (F0 m 1446 ls [])) : ∀ (H : Heap) (locs : List Loc) (ls : Array Slot), va_P E.1 vwCl (pv_wX E a x) H → va_P E.1 vwCl (pv_wM E b0 b1 b2 b3 b4 b5 b6 b7 b8 b9 b10 mm) H → va_S (fun q : Nat => s.heap.size ≤ q) s.heap H locs → lv_has ls 4 [(0, .ref b), (1, .ref (a 0)), (2, .ref b0), (3, .int (nI i))] → W p l e room_1 s m #[Value.ref b] below meth c H locs 48 871 Q (F0 m 1400 ls []) := by
  obtain ⟨hx, hb, hml, hown, hts, hX, hbl, hE, hDa, hDb, hXM⟩ := C0
  have hK := hE.1
  have hA : ∀ q : Nat, s.heap.size ≤ q → (fun q : Nat => s.heap.size ≤ q) q := fun _ h => h
  have hbA : ¬ (fun q : Nat => s.heap.size ≤ q) b := Nat.not_le.mpr hbl
  intro H locs ls hPa hPb hS hl
  refine lv_aload_n (pc := 1400) hx hb dL_law_1400 rfl (lv_at hl 1 rfl) ?_
  refine lv_aload_n (pc := 1401) hx hb dL_law_1401 rfl (lv_at hl 0 rfl) ?_
  refine lv_iload_n (pc := 1402) hx hb dL_law_1402 rfl (lv_at hl 3 rfl) ?_
  refine lv_iconst (pc := 1403) (v := nI 1) hx hb dL_law_1403 (by decide) ?_
  refine lv_iadd (pc := 1404) hx hb dL_law_1404 ?_
  refine W.eq (g2 := F0 m 1405 ls [.int (nI (i + 1)), .ref b, .ref (a 0)]) (by rw [lw_i]) ?_
  refine va_sld (pc := 1405) hx hb hX hbl hbA hS (vp_in_nI (by omega) (by omega)) dL_law_1405 ?_
  refine pv_vRWk (pc := 1406) (rest := []) (st1 := [.int r]) (ws := pv_wX E a x) (w1 := pv_wX E a x2) [.int (xs (nI (i + 1)).toNatClampNeg)] ⟨hx, hb, hml, hown, hts⟩ hE hA hS hPa (hDa x) (c_X6_count l E a (xs (nI (i + 1)).toNatClampNeg) x (r, x2) h1) (cwV 1 hts gL_law_X6_count rfl rfl rfl (by decide +kernel) ⟨(Nat.le_of_ble_eq_true rfl), (Nat.le_of_ble_eq_true rfl)⟩) (va_recv hK hPa (ci := 4) (q0 := 0) rfl rfl) rfl hl.1 rfl rfl (Nat.le_of_ble_eq_true rfl) dL_law_1406 ⟨(Nat.le_of_ble_eq_true rfl), (Nat.le_of_ble_eq_true rfl)⟩ (fun H1 locs hP1 hk hS => ?_)
  have hPa := hP1
  have hPb := pv_frame hPb (hXM x mm) hk
  generalize H1 = H at hPa hPb hS ⊢
  refine lv_aload_n (pc := 1409) hx hb dL_law_1409 rfl (lv_at hl 2 rfl) ?_
  refine lv_aload_n (pc := 1410) hx hb dL_law_1410 rfl (lv_at hl 0 rfl) ?_
  refine lv_iload_n (pc := 1411) hx hb dL_law_1411 rfl (lv_at hl 3 rfl) ?_
  refine lv_iconst (pc := 1412) (v := nI 1) hx hb dL_law_1412 (by decide) ?_
  refine lv_iadd (pc := 1413) hx hb dL_law_1413 ?_
  refine W.eq (g2 := F0 m 1414 ls [.int (nI (i + 1)), .ref b, .ref b0, .int r]) (by rw [lw_i]) ?_
  refine va_sld (pc := 1414) hx hb hX hbl hbA hS (vp_in_nI (by omega) (by omega)) dL_law_1414 ?_
  refine pv_vRWk (pc := 1415) (rest := [.int r]) (st1 := [.int r, .int r]) (ws := pv_wM E b0 b1 b2 b3 b4 b5 b6 b7 b8 b9 b10 mm) (w1 := pv_wM E b0 b1 b2 b3 b4 b5 b6 b7 b8 b9 b10 m2) [.int (xs (nI (i + 1)).toNatClampNeg)] ⟨hx, hb, hml, hown, hts⟩ hE hA hS hPb (hDb mm) (c_X7_count l E b0 b1 b2 b3 b4 b5 b6 b7 b8 b9 b10 (xs (nI (i + 1)).toNatClampNeg) mm (r, m2) h2) (cwV 1 hts gL_law_X7_count rfl rfl rfl (by decide +kernel) ⟨(Nat.le_of_ble_eq_true rfl), (Nat.le_of_ble_eq_true rfl)⟩) (va_recv hK hPb (ci := 5) (q0 := 0) rfl rfl) rfl hl.1 rfl rfl (Nat.le_of_ble_eq_true rfl) dL_law_1415 ⟨(Nat.le_of_ble_eq_true rfl), (Nat.le_of_ble_eq_true rfl)⟩ (fun H1 locs hP1 hk hS => ?_)
  have hPb := hP1
  have hPa := pv_frame hPa (fun i j p q hp hq e => hXM x2 mm j i q p hq hp e.symm) hk
  generalize H1 = H at hPa hPb hS ⊢
  refine lv_icmp_eq (pc := 1418) (tgt := 1446) hx hb dL_law_1418 (by decide) (fun _ => ?_) (fun c9 => absurd rfl c9)
  exact K H locs ls hPa hPb hS hl
set_option maxHeartbeats 4000000 in
set_option maxRecDepth 100000 in
theorem law_c40 {p : Program} {l : Launch} {e : Env} {s : State} {m : MethodId} {below : List Frame} {meth : Method} {c : Code} {b L : Nat} {xs : Nat → Int32} {E : pv_E} {a : Nat → Nat} {b0 b1 b2 b3 b4 b5 b6 b7 b8 b9 b10 : Nat} (C0 : lw_C p s m meth c b L xs E a b0 b1 b2 b3 b4 b5 b6 b7 b8 b9 b10) (hL : L ≤ 3072) (i : Nat) (hi : i + 6 ≤ L) (Q : State → Prop) (x x2 : pv_XT) (mm m2 : pv_MT) (r : Int32) (h1 : m_X6_status (xs (nI (i + 1)).toNatClampNeg) x = some (r, x2)) (h2 : m_X7_status (xs (nI (i + 1)).toNatClampNeg) mm = some (r, m2))
    (K : ∀ (H : Heap) (locs : List Loc) (ls : Array Slot), va_P E.1 vwCl (pv_wX E a x2) H → va_P E.1 vwCl (pv_wM E b0 b1 b2 b3 b4 b5 b6 b7 b8 b9 b10 m2) H → va_S (fun q : Nat => s.heap.size ≤ q) s.heap H locs → lv_has ls 4 [(0, .ref b), (1, .ref (a 0)), (2, .ref b0), (3, .int (nI i))] → W p l e room_1 s m #[Value.ref b] below meth c H locs 48 871 Q (F0 m 1446 ls [])) : ∀ (H : Heap) (locs : List Loc) (ls : Array Slot), va_P E.1 vwCl (pv_wX E a x) H → va_P E.1 vwCl (pv_wM E b0 b1 b2 b3 b4 b5 b6 b7 b8 b9 b10 mm) H → va_S (fun q : Nat => s.heap.size ≤ q) s.heap H locs → lv_has ls 4 [(0, .ref b), (1, .ref (a 0)), (2, .ref b0), (3, .int (nI i))] → W p l e room_1 s m #[Value.ref b] below meth c H locs 48 871 Q (F0 m 1423 ls []) := by
  obtain ⟨hx, hb, hml, hown, hts, hX, hbl, hE, hDa, hDb, hXM⟩ := C0
  have hK := hE.1
  have hA : ∀ q : Nat, s.heap.size ≤ q → (fun q : Nat => s.heap.size ≤ q) q := fun _ h => h
  have hbA : ¬ (fun q : Nat => s.heap.size ≤ q) b := Nat.not_le.mpr hbl
  intro H locs ls hPa hPb hS hl
  refine lv_aload_n (pc := 1423) hx hb dL_law_1423 rfl (lv_at hl 1 rfl) ?_
  refine lv_aload_n (pc := 1424) hx hb dL_law_1424 rfl (lv_at hl 0 rfl) ?_
  refine lv_iload_n (pc := 1425) hx hb dL_law_1425 rfl (lv_at hl 3 rfl) ?_
  refine lv_iconst (pc := 1426) (v := nI 1) hx hb dL_law_1426 (by decide) ?_
  refine lv_iadd (pc := 1427) hx hb dL_law_1427 ?_
  refine W.eq (g2 := F0 m 1428 ls [.int (nI (i + 1)), .ref b, .ref (a 0)]) (by rw [lw_i]) ?_
  refine va_sld (pc := 1428) hx hb hX hbl hbA hS (vp_in_nI (by omega) (by omega)) dL_law_1428 ?_
  refine pv_vRWk (pc := 1429) (rest := []) (st1 := [.int r]) (ws := pv_wX E a x) (w1 := pv_wX E a x2) [.int (xs (nI (i + 1)).toNatClampNeg)] ⟨hx, hb, hml, hown, hts⟩ hE hA hS hPa (hDa x) (c_X6_status l E a (xs (nI (i + 1)).toNatClampNeg) x (r, x2) h1) (cwV 1 hts gL_law_X6_status rfl rfl rfl (by decide +kernel) ⟨(Nat.le_of_ble_eq_true rfl), (Nat.le_of_ble_eq_true rfl)⟩) (va_recv hK hPa (ci := 4) (q0 := 0) rfl rfl) rfl hl.1 rfl rfl (Nat.le_of_ble_eq_true rfl) dL_law_1429 ⟨(Nat.le_of_ble_eq_true rfl), (Nat.le_of_ble_eq_true rfl)⟩ (fun H1 locs hP1 hk hS => ?_)
  have hPa := hP1
  have hPb := pv_frame hPb (hXM x mm) hk
  generalize H1 = H at hPa hPb hS ⊢
  refine lv_aload_n (pc := 1432) hx hb dL_law_1432 rfl (lv_at hl 2 rfl) ?_
  refine lv_aload_n (pc := 1433) hx hb dL_law_1433 rfl (lv_at hl 0 rfl) ?_
  refine lv_iload_n (pc := 1434) hx hb dL_law_1434 rfl (lv_at hl 3 rfl) ?_
  refine lv_iconst (pc := 1435) (v := nI 1) hx hb dL_law_1435 (by decide) ?_
  refine lv_iadd (pc := 1436) hx hb dL_law_1436 ?_
  refine W.eq (g2 := F0 m 1437 ls [.int (nI (i + 1)), .ref b, .ref b0, .int r]) (by rw [lw_i]) ?_
  refine va_sld (pc := 1437) hx hb hX hbl hbA hS (vp_in_nI (by omega) (by omega)) dL_law_1437 ?_
  refine pv_vRWk (pc := 1438) (rest := [.int r]) (st1 := [.int r, .int r]) (ws := pv_wM E b0 b1 b2 b3 b4 b5 b6 b7 b8 b9 b10 mm) (w1 := pv_wM E b0 b1 b2 b3 b4 b5 b6 b7 b8 b9 b10 m2) [.int (xs (nI (i + 1)).toNatClampNeg)] ⟨hx, hb, hml, hown, hts⟩ hE hA hS hPb (hDb mm) (c_X7_status l E b0 b1 b2 b3 b4 b5 b6 b7 b8 b9 b10 (xs (nI (i + 1)).toNatClampNeg) mm (r, m2) h2) (cwV 1 hts gL_law_X7_status rfl rfl rfl (by decide +kernel) ⟨(Nat.le_of_ble_eq_true rfl), (Nat.le_of_ble_eq_true rfl)⟩) (va_recv hK hPb (ci := 5) (q0 := 0) rfl rfl) rfl hl.1 rfl rfl (Nat.le_of_ble_eq_true rfl) dL_law_1438 ⟨(Nat.le_of_ble_eq_true rfl), (Nat.le_of_ble_eq_true rfl)⟩ (fun H1 locs hP1 hk hS => ?_)
  have hPb := hP1
  have hPa := pv_frame hPa (fun i j p q hp hq e => hXM x2 mm j i q p hq hp e.symm) hk
  generalize H1 = H at hPa hPb hS ⊢
  refine lv_icmp_eq (pc := 1441) (tgt := 1446) hx hb dL_law_1441 (by decide) (fun _ => ?_) (fun c9 => absurd rfl c9)
  exact K H locs ls hPa hPb hS hl
