/-! the law's 42 cases -/
abbrev lw_lv (Z : ow_Z) (b I : Nat) : List (Nat × Value) := [(3, .int (nI I)), (2, .ref (ow_ad Z 56)), (1, .ref (ow_ad Z 0)), (0, .ref b)]
def lw_C (p : Program) (s : State) (m : MethodId) (c : Code) (b L : Nat) (xs : Nat → Int32) (Z : ow_Z) : Prop := p.tables.exec = Jvm.exec ∧ c.code = cL_law ∧ c.maxLocals = 4 ∧ s.vm.findClass RL = some m.cls ∧ (∀ w ∈ lw_tbl, w.before #[Value.ref b] s = true) ∧ va_X b L xs s s.heap ∧ b < s.heap.size ∧ ow_G Z (fun q => s.heap.size ≤ q) s s.heap ∧ (∀ q, ow_A Z 0 56 q → ¬ ow_A Z 56 20 q) ∧ L ≤ 3584
def lw_W (Z : ow_Z) (X M : ow_S) (s : State) (H : Heap) (locs : List Loc) : Prop := oW Z (fun q => s.heap.size ≤ q) 0 56 X s H locs ∧ oW Z (fun q => s.heap.size ≤ q) 56 20 M s H locs ∧ Rl X M
section LWC
variable {p : Program} {e : Env} {s : State} {m : MethodId} {below : List Frame} {meth : Method} {c : Code} {H : Heap} {locs : List Loc} {Q : State → Prop} {ls : Array Slot} {rest : List Value} {b L I : Nat} {xs : Nat → Int32} {Z : ow_Z} {X M : ow_S}
theorem lw_arg {l : Launch} {pc : Nat} (j : Nat) {z : Int} (hx : p.tables.exec = Jvm.exec) (hb : c.code = cL_law) (hX : va_X b L xs s s.heap) (hbl : b < s.heap.size) (hL : L ≤ 3584) (hS : va_S (fun q => s.heap.size ≤ q) s.heap H locs) (hl : lv_has ls 4 (lw_lv Z b I)) (hI : I + 7 ≤ L) (hj : j < 7) (d0 : decode cL_law pc = .ok (.aload_n 0, 1)) (d1 : decode cL_law (pc + 1) = .ok (.iload_n 3, 1)) (d2 : decode cL_law (pc + 2) = .ok (.iconst z, 1)) (hz : Int32.ofInt z = nI j) (d3 : decode cL_law (pc + 3) = .ok (.iadd, 1)) (d4 : decode cL_law (pc + 4) = .ok (.iaload, 1)) (kk : W p l e room_1 s m #[Value.ref b] below meth c H locs 76 4667 Q (F0 m (pc + 5) ls (.int (xs (I + j)) :: rest))) : W p l e room_1 s m #[Value.ref b] below meth c H locs 76 4667 Q (F0 m pc ls rest) := by
  refine lv_aload_n hx hb d0 rfl (lv_at hl 3 rfl) ?_
  refine lv_iload_n hx hb d1 rfl (lv_at hl 0 rfl) ?_
  refine lv_iconst hx hb d2 hz ?_
  refine lv_iadd hx hb d3 ?_
  rw [n_add]
  refine va_sld hx hb hX hbl (fun h => by omega) hS (vp_in_nI (by omega) (by omega)) d4 ?_
  rw [n_cl (by omega)]; exact kk
theorem lw_argb {l : Launch} {pc : Nat} (j : Nat) {z : Int} (hx : p.tables.exec = Jvm.exec) (hb : c.code = cL_law) (hX : va_X b L xs s s.heap) (hbl : b < s.heap.size) (hL : L ≤ 3584) (hS : va_S (fun q => s.heap.size ≤ q) s.heap H locs) (hl : lv_has ls 4 (lw_lv Z b I)) (hI : I + 7 ≤ L) (hj : j < 7) (d0 : decode cL_law pc = .ok (.aload_n 0, 1)) (d1 : decode cL_law (pc + 1) = .ok (.iload_n 3, 1)) (d2 : decode cL_law (pc + 2) = .ok (.bipush z, 2)) (hz : (Int8.ofInt z).toInt32 = nI j) (d3 : decode cL_law (pc + 4) = .ok (.iadd, 1)) (d4 : decode cL_law (pc + 5) = .ok (.iaload, 1)) (kk : W p l e room_1 s m #[Value.ref b] below meth c H locs 76 4667 Q (F0 m (pc + 6) ls (.int (xs (I + j)) :: rest))) : W p l e room_1 s m #[Value.ref b] below meth c H locs 76 4667 Q (F0 m pc ls rest) := by
  refine lv_aload_n hx hb d0 rfl (lv_at hl 3 rfl) ?_
  refine lv_iload_n hx hb d1 rfl (lv_at hl 0 rfl) ?_
  refine lv_bipush hx hb d2 hz ?_
  refine lv_iadd hx hb d3 ?_
  rw [n_add]
  refine va_sld hx hb hX hbl (fun h => by omega) hS (vp_in_nI (by omega) (by omega)) d4 ?_
  rw [n_cl (by omega)]; exact kk
theorem lg_cmp_same (x : Int64) : lg_cmp x x = 0 := by
  simp [lg_cmp]
theorem lw_c0 (l : Launch) (C : lw_C p s m c b L xs Z) (hI : I + 7 ≤ L) (hl : lv_has ls 4 (lw_lv Z b I)) (hW : lw_W Z X M s H locs) (kk : ∀ (X M : ow_S) (H : Heap) (locs : List Loc), lw_W Z X M s H locs → W p l e room_1 s m #[Value.ref b] below meth c H locs 76 4667 Q (F0 m 1656 ls [])) : W p l e room_1 s m #[Value.ref b] below meth c H locs 76 4667 Q (F0 m 216 ls []) := by
  obtain ⟨hx, hb, hml, hown, hts, hX, hbl, hG, hd, hL⟩ := C
  obtain ⟨h8, h9, hR⟩ := hW
  obtain ⟨r, X1, M1, f8, f9, hR1⟩ := o_count 1000 (xs (I + 1)) X M hR
  have hS := h8.2.2.1
  refine lv_aload_n hx hb dL_law_216 rfl (lv_at hl 2 rfl) ?_
  refine lw_arg 1 hx hb hX hbl hL hS hl hI (by decide) dL_law_217 dL_law_218 dL_law_219 rfl dL_law_220 dL_law_221 ?_
  refine o_calli (va_runV (As := [.int (xs (I + 1))]) (rest := []) ⟨hx, hb, hml, hown, hts⟩ (c_X8_count l Z 1000 (xs (I + 1)) X r X1 f8) (cwV 1 hts gL_law_X8_count rfl rfl rfl (by decide +kernel) ⟨(Nat.le_of_ble_eq_true rfl), (Nat.le_of_ble_eq_true rfl)⟩) (o_preV hG h8 ow_i0 (by decide) rfl) rfl rfl hl.1 rfl (lv_room (Nat.le_of_ble_eq_true rfl)) dL_law_222 ⟨(Nat.le_of_ble_eq_true rfl), (Nat.le_of_ble_eq_true rfl)⟩) h8 (fun H1 locs1 h8 hz hk => ?_)
  have h9 := h9.kept h8.2.2.1 hk (fun q h1 h2 => hd q h2 h1)
  have hS := h8.2.2.1
  refine lv_aload_n hx hb dL_law_225 rfl (lv_at hl 1 rfl) ?_
  refine lw_arg 1 hx hb hX hbl hL hS hl hI (by decide) dL_law_226 dL_law_227 dL_law_228 rfl dL_law_229 dL_law_230 ?_
  refine o_calli (va_runV (As := [.int (xs (I + 1))]) (rest := [.int r]) ⟨hx, hb, hml, hown, hts⟩ (c_X9_count l Z 1000 (xs (I + 1)) M r M1 f9) (cwV 1 hts gL_law_X9_count rfl rfl rfl (by decide +kernel) ⟨(Nat.le_of_ble_eq_true rfl), (Nat.le_of_ble_eq_true rfl)⟩) (o_preV hG h9 ow_i56 (by decide) rfl) rfl rfl hl.1 rfl (lv_room (Nat.le_of_ble_eq_true rfl)) dL_law_231 ⟨(Nat.le_of_ble_eq_true rfl), (Nat.le_of_ble_eq_true rfl)⟩) h9 (fun H2 locs2 h9 hz2 hk2 => ?_)
  have h8 := h8.kept h9.2.2.1 hk2 hd
  exact lv_icmp_eq (tgt := 1656) hx hb dL_law_234 (by decide) (fun _ => kk _ _ _ _ ⟨h8, h9, hR1⟩) (fun c => absurd rfl c)
theorem lw_c1 (l : Launch) (C : lw_C p s m c b L xs Z) (hI : I + 7 ≤ L) (hl : lv_has ls 4 (lw_lv Z b I)) (hW : lw_W Z X M s H locs) (kk : ∀ (X M : ow_S) (H : Heap) (locs : List Loc), lw_W Z X M s H locs → W p l e room_1 s m #[Value.ref b] below meth c H locs 76 4667 Q (F0 m 1656 ls [])) : W p l e room_1 s m #[Value.ref b] below meth c H locs 76 4667 Q (F0 m 239 ls []) := by
  obtain ⟨hx, hb, hml, hown, hts, hX, hbl, hG, hd, hL⟩ := C
  obtain ⟨h8, h9, hR⟩ := hW
  obtain ⟨r, X1, M1, f8, f9, hR1⟩ := o_deal 1000 (Nat.le_refl _) (xs (I + 1)) X M hR
  have hS := h8.2.2.1
  refine lv_aload_n hx hb dL_law_239 rfl (lv_at hl 2 rfl) ?_
  refine lw_arg 1 hx hb hX hbl hL hS hl hI (by decide) dL_law_240 dL_law_241 dL_law_242 rfl dL_law_243 dL_law_244 ?_
  refine o_calli (va_runV (As := [.int (xs (I + 1))]) (rest := []) ⟨hx, hb, hml, hown, hts⟩ (c_X8_deal l Z 1000 (xs (I + 1)) X r X1 f8) (cwV 1 hts gL_law_X8_deal rfl rfl rfl (by decide +kernel) ⟨(Nat.le_of_ble_eq_true rfl), (Nat.le_of_ble_eq_true rfl)⟩) (o_preV hG h8 ow_i0 (by decide) rfl) rfl rfl hl.1 rfl (lv_room (Nat.le_of_ble_eq_true rfl)) dL_law_245 ⟨(Nat.le_of_ble_eq_true rfl), (Nat.le_of_ble_eq_true rfl)⟩) h8 (fun H1 locs1 h8 hz hk => ?_)
  have h9 := h9.kept h8.2.2.1 hk (fun q h1 h2 => hd q h2 h1)
  have hS := h8.2.2.1
  refine lv_aload_n hx hb dL_law_248 rfl (lv_at hl 1 rfl) ?_
  refine lw_arg 1 hx hb hX hbl hL hS hl hI (by decide) dL_law_249 dL_law_250 dL_law_251 rfl dL_law_252 dL_law_253 ?_
  refine o_calli (va_runV (As := [.int (xs (I + 1))]) (rest := [.int r]) ⟨hx, hb, hml, hown, hts⟩ (c_X9_deal l Z 1000 (xs (I + 1)) M r M1 f9) (cwV 1 hts gL_law_X9_deal rfl rfl rfl (by decide +kernel) ⟨(Nat.le_of_ble_eq_true rfl), (Nat.le_of_ble_eq_true rfl)⟩) (o_preV hG h9 ow_i56 (by decide) rfl) rfl rfl hl.1 rfl (lv_room (Nat.le_of_ble_eq_true rfl)) dL_law_254 ⟨(Nat.le_of_ble_eq_true rfl), (Nat.le_of_ble_eq_true rfl)⟩) h9 (fun H2 locs2 h9 hz2 hk2 => ?_)
  have h8 := h8.kept h9.2.2.1 hk2 hd
  exact lv_icmp_eq (tgt := 1656) hx hb dL_law_257 (by decide) (fun _ => kk _ _ _ _ ⟨h8, h9, hR1⟩) (fun c => absurd rfl c)
theorem lw_c2 (l : Launch) (C : lw_C p s m c b L xs Z) (hI : I + 7 ≤ L) (hl : lv_has ls 4 (lw_lv Z b I)) (hW : lw_W Z X M s H locs) (kk : ∀ (X M : ow_S) (H : Heap) (locs : List Loc), lw_W Z X M s H locs → W p l e room_1 s m #[Value.ref b] below meth c H locs 76 4667 Q (F0 m 1656 ls [])) : W p l e room_1 s m #[Value.ref b] below meth c H locs 76 4667 Q (F0 m 262 ls []) := by
  obtain ⟨hx, hb, hml, hown, hts, hX, hbl, hG, hd, hL⟩ := C
  obtain ⟨h8, h9, hR⟩ := hW
  obtain ⟨r, X1, M1, f8, f9, hR1⟩ := o_card 1000 (xs (I + 1)) X M hR
  have hS := h8.2.2.1
  refine lv_aload_n hx hb dL_law_262 rfl (lv_at hl 2 rfl) ?_
  refine lw_arg 1 hx hb hX hbl hL hS hl hI (by decide) dL_law_263 dL_law_264 dL_law_265 rfl dL_law_266 dL_law_267 ?_
  refine o_calli (va_runV (As := [.int (xs (I + 1))]) (rest := []) ⟨hx, hb, hml, hown, hts⟩ (c_X8_card l Z 1000 (xs (I + 1)) X r X1 f8) (cwV 1 hts gL_law_X8_card rfl rfl rfl (by decide +kernel) ⟨(Nat.le_of_ble_eq_true rfl), (Nat.le_of_ble_eq_true rfl)⟩) (o_preV hG h8 ow_i0 (by decide) rfl) rfl rfl hl.1 rfl (lv_room (Nat.le_of_ble_eq_true rfl)) dL_law_268 ⟨(Nat.le_of_ble_eq_true rfl), (Nat.le_of_ble_eq_true rfl)⟩) h8 (fun H1 locs1 h8 hz hk => ?_)
  have h9 := h9.kept h8.2.2.1 hk (fun q h1 h2 => hd q h2 h1)
  have hS := h8.2.2.1
  refine lv_aload_n hx hb dL_law_271 rfl (lv_at hl 1 rfl) ?_
  refine lw_arg 1 hx hb hX hbl hL hS hl hI (by decide) dL_law_272 dL_law_273 dL_law_274 rfl dL_law_275 dL_law_276 ?_
  refine o_calli (va_runV (As := [.int (xs (I + 1))]) (rest := [.int r]) ⟨hx, hb, hml, hown, hts⟩ (c_X9_card l Z 1000 (xs (I + 1)) M r M1 f9) (cwV 1 hts gL_law_X9_card rfl rfl rfl (by decide +kernel) ⟨(Nat.le_of_ble_eq_true rfl), (Nat.le_of_ble_eq_true rfl)⟩) (o_preV hG h9 ow_i56 (by decide) rfl) rfl rfl hl.1 rfl (lv_room (Nat.le_of_ble_eq_true rfl)) dL_law_277 ⟨(Nat.le_of_ble_eq_true rfl), (Nat.le_of_ble_eq_true rfl)⟩) h9 (fun H2 locs2 h9 hz2 hk2 => ?_)
  have h8 := h8.kept h9.2.2.1 hk2 hd
  exact lv_icmp_eq (tgt := 1656) hx hb dL_law_280 (by decide) (fun _ => kk _ _ _ _ ⟨h8, h9, hR1⟩) (fun c => absurd rfl c)
end LWC
