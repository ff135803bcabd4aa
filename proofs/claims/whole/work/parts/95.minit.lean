/-! the reference's making: its arrays one behind the other -/
def oL9 : List Nat := [0, 0, 0, 1, 2, 3, 4, 5, 6, 7, 8, 9, 10, 11, 12, 0, 0, 13, 14, 15, 16, 17, 18, 19, 20, 21, 22, 0, 0, 0, 23, 24, 0, 0, 25, 26, 27, 28, 29, 30, 31, 0, 0, 0, 0, 0]
def tL9 : List Nat := [4, 4, 4, 4, 4, 4, 4, 4, 4, 4, 4, 1, 1, 4, 4, 4, 4, 4, 4, 4, 4, 4, 4, 4, 4, 4, 4, 1, 1, 4, 4, 5]
def lL9 : List Nat := [24, 120, 120, 120, 120, 120, 120, 1200, 1200, 600, 5, 16, 16, 2400, 240, 240, 240, 120, 120, 120, 120, 120, 120, 10, 10, 10, 10, 128, 8, 16, 16, 16]
def arK (g : gG) (H : Heap) (n0 i : Nat) : Prop := (tL9.getD i 0 = 1 → ar g 1 H (n0 + i) (lL9.getD i 0, .inr (.inl (fun _ => 0)))) ∧ (¬ tL9.getD i 0 = 1 → ar g (tL9.getD i 0) H (n0 + i) (lL9.getD i 0, .inl (fun _ => 0)))
def arO (g : gG) (H : Heap) (n0 k : Nat) : Prop := ∀ i, i < k → arK g H n0 i
theorem arK_kept {g : gG} {H H1 : Heap} {n0 i : Nat} (h : arK g H n0 i) (hq : H1[n0 + i]? = H[n0 + i]?) : arK g H1 n0 i := ⟨fun z => ar_kept (h.1 z) hq, fun z => ar_kept (h.2 z) hq⟩
theorem arO_put {g : gG} {H H1 : Heap} {n0 k x : Nat} (h : arO g H n0 k) (hx : x < n0) (oq : ∀ q : Nat, q ≠ x → H1[q]? = H[q]?) : arO g H1 n0 k := fun i hi => arK_kept (h i hi) (oq _ (by omega))
theorem arO_new {g : gG} {H H1 : Heap} {n0 k : Nat} (h : arO g H n0 k) (hn : arK g H1 n0 k) (o1 : ∀ q : Nat, q < n0 + k → H1[q]? = H[q]?) : arO g H1 n0 (k + 1) := fun i hi => by
  rcases Nat.lt_or_ge i k with e | e
  · exact arK_kept (h i e) (o1 _ (by omega))
  · rw [show i = k by omega]; exact hn
theorem o9_1 : ∀ j, j < 46 → mK j = 1 → oL9.getD j 0 < 32 ∧ tL9.getD (oL9.getD j 0) 0 = 4 ∧ lL9.getD (oL9.getD j 0) 0 = mLen j := by decide +kernel
theorem o9_2 : ∀ j, j < 46 → mK j = 2 → oL9.getD j 0 < 32 ∧ tL9.getD (oL9.getD j 0) 0 = 1 ∧ lL9.getD (oL9.getD j 0) 0 = mLen j := by decide +kernel
theorem o9_3 : ∀ j, j < 46 → mK j = 3 → oL9.getD j 0 < 32 ∧ tL9.getD (oL9.getD j 0) 0 = 5 ∧ lL9.getD (oL9.getD j 0) 0 = mLen j := by decide +kernel
theorem o9_i : ∀ i, i < 46 → ∀ j, j < 46 → mK i ≠ 0 → mK j ≠ 0 → oL9.getD i 0 = oL9.getD j 0 → i = j := by decide +kernel
theorem mW_new {g : gG} {H : Heap} {n0 x : Nat} (hA : arO g H n0 32) (f0 : ob g H x 8 (mF (fun j => n0 + oL9.getD j 0) (fun _ => 0))) (hx : x < n0) (hx9 : g.2.2.1 ≤ x) : mW g H x (fun j => n0 + oL9.getD j 0) (fun _ => 0) (fun _ _ => 0) (fun _ _ => 0) := by
  refine ⟨f0, fun j hj => ?_, fun j hj => ?_, fun j hj => ?_, fun i j hi hj e => o9_i i (mK_lt hi) j (mK_lt hj) hi hj (by have e : n0 + oL9.getD i 0 = n0 + oL9.getD j 0 := e; omega), fun j hj => (show x ≠ n0 + oL9.getD j 0 by omega), fun q hq => ?_⟩
  · have h := o9_1 j (mK_lt (by rw [hj]; decide)) hj
    have k := (hA _ h.1).2 (by rw [h.2.1]; decide)
    rw [h.2.1, h.2.2] at k
    exact k
  · have h := o9_2 j (mK_lt (by rw [hj]; decide)) hj
    have k := (hA _ h.1).1 h.2.1
    rw [h.2.2] at k
    exact k
  · have h := o9_3 j (mK_lt (by rw [hj]; decide)) hj
    have k := (hA _ h.1).2 (by rw [h.2.1]; decide)
    rw [h.2.1, h.2.2] at k
    exact k
  · rcases hq with e | ⟨j, hj, e⟩
    · rw [e]; exact hx9
    · rw [e]; show g.2.2.1 ≤ n0 + oL9.getD j 0; omega
set_option maxHeartbeats 4000000 in
set_option maxRecDepth 100000 in
theorem lp_M_init32 {p : Program} {l : Launch} {e : Env} {s : State} {m : MethodId} {args : Array Value} {below : List Frame} {meth : Method} {c : Code} {g : gG} (C0 : cF g p s m args meth c b_M_init 1 "RegistryLogModel" none) (hnm : meth.name = "<init>") {x : Nat} (hx9 : g.2.2.1 ≤ x) (hxn : x < s.heap.size) : ∀ (H : Heap) (locs : List Loc), ob g H x 8 [.int 0, .ref ((s.heap.size + 0)), .int 0, .ref ((s.heap.size + 1)), .ref ((s.heap.size + 2)), .ref ((s.heap.size + 3)), .ref ((s.heap.size + 4)), .ref ((s.heap.size + 5)), .ref ((s.heap.size + 6)), .ref ((s.heap.size + 7)), .ref ((s.heap.size + 8)), .ref ((s.heap.size + 9)), .ref ((s.heap.size + 10)), .ref ((s.heap.size + 11)), .ref ((s.heap.size + 12)), .int 0, .int 0, .ref ((s.heap.size + 13)), .ref ((s.heap.size + 14)), .ref ((s.heap.size + 15)), .ref ((s.heap.size + 16)), .ref ((s.heap.size + 17)), .ref ((s.heap.size + 18)), .ref ((s.heap.size + 19)), .ref ((s.heap.size + 20)), .ref ((s.heap.size + 21)), .ref ((s.heap.size + 22)), .int 0, .int 0, .int 0, .ref ((s.heap.size + 23)), .ref ((s.heap.size + 24)), .int 0, .int 0, .ref ((s.heap.size + 25)), .ref ((s.heap.size + 26)), .ref ((s.heap.size + 27)), .ref ((s.heap.size + 28)), .ref ((s.heap.size + 29)), .ref ((s.heap.size + 30)), .ref ((s.heap.size + 31)), .int 0, .int 0, .int 0, .int 0, .int 0] → arO g H s.heap.size 32 → H.size = s.heap.size + 32 → va_S (fW s.heap (fun q => q = x)) s.heap H locs → ∀ (ls : Array Slot), lv_has ls 1 [(0, .ref x)] → W p l e (rmk 1 32 7845 20) s m args below meth c H locs 32 7845 (MQ below (qW s.heap (fun q => q = x) (fun r H1 => r = none ∧ mW g H1 x (fun j => s.heap.size + oL9.getD j 0) (fun _ => 0) (fun _ _ => 0) (fun _ _ => 0))) args s 32 7845 (fW s.heap (fun q => q = x))) (F0 m 267 ls []) := by
  obtain ⟨hx, hb, hml, hown, hts, hr, hlk, hK⟩ := id C0
  intro H locs f9 hA hN9 hS ls hl
  refine W.widen (k := 32) (n := 7845) (by omega) (by omega) ?_
  exact W.vret hx hb hr (fun t9 ht hW => ⟨_, rfl, by rw [ht]; exact hS_hC hS, by rw [ht]; exact ⟨rfl, mW_new hA f9 hxn hx9⟩⟩) hS.2.2 d_M_init_267 hlk
set_option maxHeartbeats 4000000 in
set_option maxRecDepth 100000 in
theorem lp_M_init28 {p : Program} {l : Launch} {e : Env} {s : State} {m : MethodId} {args : Array Value} {below : List Frame} {meth : Method} {c : Code} {g : gG} (C0 : cF g p s m args meth c b_M_init 1 "RegistryLogModel" none) (hnm : meth.name = "<init>") {x : Nat} (hx9 : g.2.2.1 ≤ x) (hxn : x < s.heap.size) : ∀ (H : Heap) (locs : List Loc), ob g H x 8 [.int 0, .ref ((s.heap.size + 0)), .int 0, .ref ((s.heap.size + 1)), .ref ((s.heap.size + 2)), .ref ((s.heap.size + 3)), .ref ((s.heap.size + 4)), .ref ((s.heap.size + 5)), .ref ((s.heap.size + 6)), .ref ((s.heap.size + 7)), .ref ((s.heap.size + 8)), .ref ((s.heap.size + 9)), .ref ((s.heap.size + 10)), .ref ((s.heap.size + 11)), .ref ((s.heap.size + 12)), .int 0, .int 0, .ref ((s.heap.size + 13)), .ref ((s.heap.size + 14)), .ref ((s.heap.size + 15)), .ref ((s.heap.size + 16)), .ref ((s.heap.size + 17)), .ref ((s.heap.size + 18)), .ref ((s.heap.size + 19)), .ref ((s.heap.size + 20)), .ref ((s.heap.size + 21)), .ref ((s.heap.size + 22)), .int 0, .int 0, .int 0, .ref ((s.heap.size + 23)), .ref ((s.heap.size + 24)), .int 0, .int 0, .ref ((s.heap.size + 25)), .ref ((s.heap.size + 26)), .ref ((s.heap.size + 27)), .null, .null, .null, .null, .int 0, .int 0, .int 0, .int 0, .int 0] → arO g H s.heap.size 28 → H.size = s.heap.size + 28 → va_S (fW s.heap (fun q => q = x)) s.heap H locs → ∀ (ls : Array Slot), lv_has ls 1 [(0, .ref x)] → W p l e (rmk 1 32 7845 20) s m args below meth c H locs 28 7789 (MQ below (qW s.heap (fun q => q = x) (fun r H1 => r = none ∧ mW g H1 x (fun j => s.heap.size + oL9.getD j 0) (fun _ => 0) (fun _ _ => 0) (fun _ _ => 0))) args s 32 7845 (fW s.heap (fun q => q = x))) (F0 m 235 ls []) := by
  obtain ⟨hx, hb, hml, hown, hts, hr, hlk, hK⟩ := id C0
  intro H locs f9 hA hN9 hS ls hl
  refine lv_aload_n hx hb d_M_init_235 rfl (lv_at hl 0 rfl) ?_
  refine lv_bipush (v := nI 8) hx hb d_M_init_236 (by decide) ?_
  have hS0 := hS
  refine s_newa hx hb (hts _ (in_3 (List.mem_of_getElem? (i := 8) rfl) rfl)) (ty := .long) rfl rfl hK hS 1 rfl (a0 := (8, .inr (.inl (fun _ => 0)))) (fun _ => vp_cell_l _ _ _) (nI_pos (by omega)) (nI_clamp (by omega)) (by show 8 * 8 ≤ 536870912; omega) (by show 28 + 1 ≤ 32; omega) (by show 7789 + 8 ≤ 7845; omega) d_M_init_238 (fun q1 H hq f_q1 hz o1 hS => ?_)
  have lt_x_q1 : x < q1 := by rw [hq]; exact ob_lt f9
  have f9 := ob_kept f9 (o1 _ lt_x_q1)
  have ge_q1 : s.heap.size ≤ q1 := by rw [hq]; exact hS0.1
  have e_q1 : q1 = s.heap.size + 28 := by omega
  subst e_q1
  have hA := arO_new hA (k := 28) ⟨fun _ => f_q1, fun z => absurd rfl z⟩ (fun q9 h9 => o1 q9 h9)
  have hN9 : H.size = s.heap.size + 29 := by omega
  refine s_putF (ci := 8) (C := R_M) (T := F_M) (N := 46) hx hb hts i_M t_M t_M_ok n_M hown hK hS (Or.inl rfl) f9 rfl 37 (by decide) (hts _ (in_5 (List.mem_of_getElem? (i := 6) rfl) rfl)) (fun _ h9 => h9) rfl hnm rfl (v := .ref ((s.heap.size + 28))) rfl rfl rfl (Nat.le_of_ble_eq_true rfl) (fs2 := [.int 0, .ref ((s.heap.size + 0)), .int 0, .ref ((s.heap.size + 1)), .ref ((s.heap.size + 2)), .ref ((s.heap.size + 3)), .ref ((s.heap.size + 4)), .ref ((s.heap.size + 5)), .ref ((s.heap.size + 6)), .ref ((s.heap.size + 7)), .ref ((s.heap.size + 8)), .ref ((s.heap.size + 9)), .ref ((s.heap.size + 10)), .ref ((s.heap.size + 11)), .ref ((s.heap.size + 12)), .int 0, .int 0, .ref ((s.heap.size + 13)), .ref ((s.heap.size + 14)), .ref ((s.heap.size + 15)), .ref ((s.heap.size + 16)), .ref ((s.heap.size + 17)), .ref ((s.heap.size + 18)), .ref ((s.heap.size + 19)), .ref ((s.heap.size + 20)), .ref ((s.heap.size + 21)), .ref ((s.heap.size + 22)), .int 0, .int 0, .int 0, .ref ((s.heap.size + 23)), .ref ((s.heap.size + 24)), .int 0, .int 0, .ref ((s.heap.size + 25)), .ref ((s.heap.size + 26)), .ref ((s.heap.size + 27)), .ref ((s.heap.size + 28)), .null, .null, .null, .int 0, .int 0, .int 0, .int 0, .int 0]) rfl d_M_init_240 (fun H locs f9 hz oq hS => ?_)
  have hA := arO_put hA hxn oq
  have hN9 : H.size = s.heap.size + 29 := by omega
  refine lv_aload_n hx hb d_M_init_243 rfl (lv_at hl 0 rfl) ?_
  refine lv_bipush (v := nI 16) hx hb d_M_init_244 (by decide) ?_
  have hS0 := hS
  refine s_newa hx hb (hts _ (in_5 (List.mem_of_getElem? (i := 108) rfl) rfl)) (ty := .int) rfl rfl hK hS 4 rfl (a0 := (16, .inl (fun _ => 0))) (fun _ => vp_cell_i _ _ _) (nI_pos (by omega)) (nI_clamp (by omega)) (by show 16 * 4 ≤ 536870912; omega) (by show 28 + 1 + 1 ≤ 32; omega) (by show 7789 + 8 + 16 ≤ 7845; omega) d_M_init_246 (fun q2 H hq f_q2 hz o1 hS => ?_)
  have lt_x_q2 : x < q2 := by rw [hq]; exact ob_lt f9
  have f9 := ob_kept f9 (o1 _ lt_x_q2)
  have ge_q2 : s.heap.size ≤ q2 := by rw [hq]; exact hS0.1
  have e_q2 : q2 = s.heap.size + 29 := by omega
  subst e_q2
  have hA := arO_new hA (k := 29) ⟨fun z => absurd z (by decide), fun _ => f_q2⟩ (fun q9 h9 => o1 q9 h9)
  have hN9 : H.size = s.heap.size + 30 := by omega
  refine s_putF (ci := 8) (C := R_M) (T := F_M) (N := 46) hx hb hts i_M t_M t_M_ok n_M hown hK hS (Or.inl rfl) f9 rfl 38 (by decide) (hts _ (in_5 (List.mem_of_getElem? (i := 7) rfl) rfl)) (fun _ h9 => h9) rfl hnm rfl (v := .ref ((s.heap.size + 29))) rfl rfl rfl (Nat.le_of_ble_eq_true rfl) (fs2 := [.int 0, .ref ((s.heap.size + 0)), .int 0, .ref ((s.heap.size + 1)), .ref ((s.heap.size + 2)), .ref ((s.heap.size + 3)), .ref ((s.heap.size + 4)), .ref ((s.heap.size + 5)), .ref ((s.heap.size + 6)), .ref ((s.heap.size + 7)), .ref ((s.heap.size + 8)), .ref ((s.heap.size + 9)), .ref ((s.heap.size + 10)), .ref ((s.heap.size + 11)), .ref ((s.heap.size + 12)), .int 0, .int 0, .ref ((s.heap.size + 13)), .ref ((s.heap.size + 14)), .ref ((s.heap.size + 15)), .ref ((s.heap.size + 16)), .ref ((s.heap.size + 17)), .ref ((s.heap.size + 18)), .ref ((s.heap.size + 19)), .ref ((s.heap.size + 20)), .ref ((s.heap.size + 21)), .ref ((s.heap.size + 22)), .int 0, .int 0, .int 0, .ref ((s.heap.size + 23)), .ref ((s.heap.size + 24)), .int 0, .int 0, .ref ((s.heap.size + 25)), .ref ((s.heap.size + 26)), .ref ((s.heap.size + 27)), .ref ((s.heap.size + 28)), .ref ((s.heap.size + 29)), .null, .null, .int 0, .int 0, .int 0, .int 0, .int 0]) rfl d_M_init_248 (fun H locs f9 hz oq hS => ?_)
  have hA := arO_put hA hxn oq
  have hN9 : H.size = s.heap.size + 30 := by omega
  refine lv_aload_n hx hb d_M_init_251 rfl (lv_at hl 0 rfl) ?_
  refine lv_bipush (v := nI 16) hx hb d_M_init_252 (by decide) ?_
  have hS0 := hS
  refine s_newa hx hb (hts _ (in_5 (List.mem_of_getElem? (i := 108) rfl) rfl)) (ty := .int) rfl rfl hK hS 4 rfl (a0 := (16, .inl (fun _ => 0))) (fun _ => vp_cell_i _ _ _) (nI_pos (by omega)) (nI_clamp (by omega)) (by show 16 * 4 ≤ 536870912; omega) (by show 28 + 1 + 1 + 1 ≤ 32; omega) (by show 7789 + 8 + 16 + 16 ≤ 7845; omega) d_M_init_254 (fun q3 H hq f_q3 hz o1 hS => ?_)
  have lt_x_q3 : x < q3 := by rw [hq]; exact ob_lt f9
  have f9 := ob_kept f9 (o1 _ lt_x_q3)
  have ge_q3 : s.heap.size ≤ q3 := by rw [hq]; exact hS0.1
  have e_q3 : q3 = s.heap.size + 30 := by omega
  subst e_q3
  have hA := arO_new hA (k := 30) ⟨fun z => absurd z (by decide), fun _ => f_q3⟩ (fun q9 h9 => o1 q9 h9)
  have hN9 : H.size = s.heap.size + 31 := by omega
  refine s_putF (ci := 8) (C := R_M) (T := F_M) (N := 46) hx hb hts i_M t_M t_M_ok n_M hown hK hS (Or.inl rfl) f9 rfl 39 (by decide) (hts _ (in_5 (List.mem_of_getElem? (i := 8) rfl) rfl)) (fun _ h9 => h9) rfl hnm rfl (v := .ref ((s.heap.size + 30))) rfl rfl rfl (Nat.le_of_ble_eq_true rfl) (fs2 := [.int 0, .ref ((s.heap.size + 0)), .int 0, .ref ((s.heap.size + 1)), .ref ((s.heap.size + 2)), .ref ((s.heap.size + 3)), .ref ((s.heap.size + 4)), .ref ((s.heap.size + 5)), .ref ((s.heap.size + 6)), .ref ((s.heap.size + 7)), .ref ((s.heap.size + 8)), .ref ((s.heap.size + 9)), .ref ((s.heap.size + 10)), .ref ((s.heap.size + 11)), .ref ((s.heap.size + 12)), .int 0, .int 0, .ref ((s.heap.size + 13)), .ref ((s.heap.size + 14)), .ref ((s.heap.size + 15)), .ref ((s.heap.size + 16)), .ref ((s.heap.size + 17)), .ref ((s.heap.size + 18)), .ref ((s.heap.size + 19)), .ref ((s.heap.size + 20)), .ref ((s.heap.size + 21)), .ref ((s.heap.size + 22)), .int 0, .int 0, .int 0, .ref ((s.heap.size + 23)), .ref ((s.heap.size + 24)), .int 0, .int 0, .ref ((s.heap.size + 25)), .ref ((s.heap.size + 26)), .ref ((s.heap.size + 27)), .ref ((s.heap.size + 28)), .ref ((s.heap.size + 29)), .ref ((s.heap.size + 30)), .null, .int 0, .int 0, .int 0, .int 0, .int 0]) rfl d_M_init_256 (fun H locs f9 hz oq hS => ?_)
  have hA := arO_put hA hxn oq
  have hN9 : H.size = s.heap.size + 31 := by omega
  refine lv_aload_n hx hb d_M_init_259 rfl (lv_at hl 0 rfl) ?_
  refine lv_bipush (v := nI 16) hx hb d_M_init_260 (by decide) ?_
  have hS0 := hS
  refine s_newa hx hb (hts _ (in_5 (List.mem_of_getElem? (i := 109) rfl) rfl)) (ty := .boolean) rfl rfl hK hS 5 rfl (a0 := (16, .inl (fun _ => 0))) (fun _ => vp_cell_i _ _ _) (nI_pos (by omega)) (nI_clamp (by omega)) (by show 16 * 1 ≤ 536870912; omega) (by show 28 + 1 + 1 + 1 + 1 ≤ 32; omega) (by show 7789 + 8 + 16 + 16 + 16 ≤ 7845; omega) d_M_init_262 (fun q4 H hq f_q4 hz o1 hS => ?_)
  have lt_x_q4 : x < q4 := by rw [hq]; exact ob_lt f9
  have f9 := ob_kept f9 (o1 _ lt_x_q4)
  have ge_q4 : s.heap.size ≤ q4 := by rw [hq]; exact hS0.1
  have e_q4 : q4 = s.heap.size + 31 := by omega
  subst e_q4
  have hA := arO_new hA (k := 31) ⟨fun z => absurd z (by decide), fun _ => f_q4⟩ (fun q9 h9 => o1 q9 h9)
  have hN9 : H.size = s.heap.size + 32 := by omega
  refine s_putF (ci := 8) (C := R_M) (T := F_M) (N := 46) hx hb hts i_M t_M t_M_ok n_M hown hK hS (Or.inl rfl) f9 rfl 40 (by decide) (hts _ (in_5 (List.mem_of_getElem? (i := 9) rfl) rfl)) (fun _ h9 => h9) rfl hnm rfl (v := .ref ((s.heap.size + 31))) rfl rfl rfl (Nat.le_of_ble_eq_true rfl) (fs2 := [.int 0, .ref ((s.heap.size + 0)), .int 0, .ref ((s.heap.size + 1)), .ref ((s.heap.size + 2)), .ref ((s.heap.size + 3)), .ref ((s.heap.size + 4)), .ref ((s.heap.size + 5)), .ref ((s.heap.size + 6)), .ref ((s.heap.size + 7)), .ref ((s.heap.size + 8)), .ref ((s.heap.size + 9)), .ref ((s.heap.size + 10)), .ref ((s.heap.size + 11)), .ref ((s.heap.size + 12)), .int 0, .int 0, .ref ((s.heap.size + 13)), .ref ((s.heap.size + 14)), .ref ((s.heap.size + 15)), .ref ((s.heap.size + 16)), .ref ((s.heap.size + 17)), .ref ((s.heap.size + 18)), .ref ((s.heap.size + 19)), .ref ((s.heap.size + 20)), .ref ((s.heap.size + 21)), .ref ((s.heap.size + 22)), .int 0, .int 0, .int 0, .ref ((s.heap.size + 23)), .ref ((s.heap.size + 24)), .int 0, .int 0, .ref ((s.heap.size + 25)), .ref ((s.heap.size + 26)), .ref ((s.heap.size + 27)), .ref ((s.heap.size + 28)), .ref ((s.heap.size + 29)), .ref ((s.heap.size + 30)), .ref ((s.heap.size + 31)), .int 0, .int 0, .int 0, .int 0, .int 0]) rfl d_M_init_264 (fun H locs f9 hz oq hS => ?_)
  have hA := arO_put hA hxn oq
  have hN9 : H.size = s.heap.size + 32 := by omega
  exact lp_M_init32 C0 hnm hx9 hxn H locs f9 hA hN9 hS ls hl
set_option maxHeartbeats 4000000 in
set_option maxRecDepth 100000 in
theorem lp_M_init24 {p : Program} {l : Launch} {e : Env} {s : State} {m : MethodId} {args : Array Value} {below : List Frame} {meth : Method} {c : Code} {g : gG} (C0 : cF g p s m args meth c b_M_init 1 "RegistryLogModel" none) (hnm : meth.name = "<init>") {x : Nat} (hx9 : g.2.2.1 ≤ x) (hxn : x < s.heap.size) : ∀ (H : Heap) (locs : List Loc), ob g H x 8 [.int 0, .ref ((s.heap.size + 0)), .int 0, .ref ((s.heap.size + 1)), .ref ((s.heap.size + 2)), .ref ((s.heap.size + 3)), .ref ((s.heap.size + 4)), .ref ((s.heap.size + 5)), .ref ((s.heap.size + 6)), .ref ((s.heap.size + 7)), .ref ((s.heap.size + 8)), .ref ((s.heap.size + 9)), .ref ((s.heap.size + 10)), .ref ((s.heap.size + 11)), .ref ((s.heap.size + 12)), .int 0, .int 0, .ref ((s.heap.size + 13)), .ref ((s.heap.size + 14)), .ref ((s.heap.size + 15)), .ref ((s.heap.size + 16)), .ref ((s.heap.size + 17)), .ref ((s.heap.size + 18)), .ref ((s.heap.size + 19)), .ref ((s.heap.size + 20)), .ref ((s.heap.size + 21)), .ref ((s.heap.size + 22)), .int 0, .int 0, .int 0, .ref ((s.heap.size + 23)), .null, .int 0, .int 0, .null, .null, .null, .null, .null, .null, .null, .int 0, .int 0, .int 0, .int 0, .int 0] → arO g H s.heap.size 24 → H.size = s.heap.size + 24 → va_S (fW s.heap (fun q => q = x)) s.heap H locs → ∀ (ls : Array Slot), lv_has ls 1 [(0, .ref x)] → W p l e (rmk 1 32 7845 20) s m args below meth c H locs 24 7631 (MQ below (qW s.heap (fun q => q = x) (fun r H1 => r = none ∧ mW g H1 x (fun j => s.heap.size + oL9.getD j 0) (fun _ => 0) (fun _ _ => 0) (fun _ _ => 0))) args s 32 7845 (fW s.heap (fun q => q = x))) (F0 m 202 ls []) := by
  obtain ⟨hx, hb, hml, hown, hts, hr, hlk, hK⟩ := id C0
  intro H locs f9 hA hN9 hS ls hl
  refine lv_aload_n hx hb d_M_init_202 rfl (lv_at hl 0 rfl) ?_
  refine lv_bipush (v := nI 10) hx hb d_M_init_203 (by decide) ?_
  have hS0 := hS
  refine s_newa hx hb (hts _ (in_5 (List.mem_of_getElem? (i := 108) rfl) rfl)) (ty := .int) rfl rfl hK hS 4 rfl (a0 := (10, .inl (fun _ => 0))) (fun _ => vp_cell_i _ _ _) (nI_pos (by omega)) (nI_clamp (by omega)) (by show 10 * 4 ≤ 536870912; omega) (by show 24 + 1 ≤ 32; omega) (by show 7631 + 10 ≤ 7845; omega) d_M_init_205 (fun q1 H hq f_q1 hz o1 hS => ?_)
  have lt_x_q1 : x < q1 := by rw [hq]; exact ob_lt f9
  have f9 := ob_kept f9 (o1 _ lt_x_q1)
  have ge_q1 : s.heap.size ≤ q1 := by rw [hq]; exact hS0.1
  have e_q1 : q1 = s.heap.size + 24 := by omega
  subst e_q1
  have hA := arO_new hA (k := 24) ⟨fun z => absurd z (by decide), fun _ => f_q1⟩ (fun q9 h9 => o1 q9 h9)
  have hN9 : H.size = s.heap.size + 25 := by omega
  refine s_putF (ci := 8) (C := R_M) (T := F_M) (N := 46) hx hb hts i_M t_M t_M_ok n_M hown hK hS (Or.inl rfl) f9 rfl 31 (by decide) (hts _ (in_5 (List.mem_of_getElem? (i := 0) rfl) rfl)) (fun _ h9 => h9) rfl hnm rfl (v := .ref ((s.heap.size + 24))) rfl rfl rfl (Nat.le_of_ble_eq_true rfl) (fs2 := [.int 0, .ref ((s.heap.size + 0)), .int 0, .ref ((s.heap.size + 1)), .ref ((s.heap.size + 2)), .ref ((s.heap.size + 3)), .ref ((s.heap.size + 4)), .ref ((s.heap.size + 5)), .ref ((s.heap.size + 6)), .ref ((s.heap.size + 7)), .ref ((s.heap.size + 8)), .ref ((s.heap.size + 9)), .ref ((s.heap.size + 10)), .ref ((s.heap.size + 11)), .ref ((s.heap.size + 12)), .int 0, .int 0, .ref ((s.heap.size + 13)), .ref ((s.heap.size + 14)), .ref ((s.heap.size + 15)), .ref ((s.heap.size + 16)), .ref ((s.heap.size + 17)), .ref ((s.heap.size + 18)), .ref ((s.heap.size + 19)), .ref ((s.heap.size + 20)), .ref ((s.heap.size + 21)), .ref ((s.heap.size + 22)), .int 0, .int 0, .int 0, .ref ((s.heap.size + 23)), .ref ((s.heap.size + 24)), .int 0, .int 0, .null, .null, .null, .null, .null, .null, .null, .int 0, .int 0, .int 0, .int 0, .int 0]) rfl d_M_init_207 (fun H locs f9 hz oq hS => ?_)
  have hA := arO_put hA hxn oq
  have hN9 : H.size = s.heap.size + 25 := by omega
  refine lv_aload_n hx hb d_M_init_210 rfl (lv_at hl 0 rfl) ?_
  refine lv_bipush (v := nI 10) hx hb d_M_init_211 (by decide) ?_
  have hS0 := hS
  refine s_newa hx hb (hts _ (in_5 (List.mem_of_getElem? (i := 108) rfl) rfl)) (ty := .int) rfl rfl hK hS 4 rfl (a0 := (10, .inl (fun _ => 0))) (fun _ => vp_cell_i _ _ _) (nI_pos (by omega)) (nI_clamp (by omega)) (by show 10 * 4 ≤ 536870912; omega) (by show 24 + 1 + 1 ≤ 32; omega) (by show 7631 + 10 + 10 ≤ 7845; omega) d_M_init_213 (fun q2 H hq f_q2 hz o1 hS => ?_)
  have lt_x_q2 : x < q2 := by rw [hq]; exact ob_lt f9
  have f9 := ob_kept f9 (o1 _ lt_x_q2)
  have ge_q2 : s.heap.size ≤ q2 := by rw [hq]; exact hS0.1
  have e_q2 : q2 = s.heap.size + 25 := by omega
  subst e_q2
  have hA := arO_new hA (k := 25) ⟨fun z => absurd z (by decide), fun _ => f_q2⟩ (fun q9 h9 => o1 q9 h9)
  have hN9 : H.size = s.heap.size + 26 := by omega
  refine s_putF (ci := 8) (C := R_M) (T := F_M) (N := 46) hx hb hts i_M t_M t_M_ok n_M hown hK hS (Or.inl rfl) f9 rfl 34 (by decide) (hts _ (in_5 (List.mem_of_getElem? (i := 3) rfl) rfl)) (fun _ h9 => h9) rfl hnm rfl (v := .ref ((s.heap.size + 25))) rfl rfl rfl (Nat.le_of_ble_eq_true rfl) (fs2 := [.int 0, .ref ((s.heap.size + 0)), .int 0, .ref ((s.heap.size + 1)), .ref ((s.heap.size + 2)), .ref ((s.heap.size + 3)), .ref ((s.heap.size + 4)), .ref ((s.heap.size + 5)), .ref ((s.heap.size + 6)), .ref ((s.heap.size + 7)), .ref ((s.heap.size + 8)), .ref ((s.heap.size + 9)), .ref ((s.heap.size + 10)), .ref ((s.heap.size + 11)), .ref ((s.heap.size + 12)), .int 0, .int 0, .ref ((s.heap.size + 13)), .ref ((s.heap.size + 14)), .ref ((s.heap.size + 15)), .ref ((s.heap.size + 16)), .ref ((s.heap.size + 17)), .ref ((s.heap.size + 18)), .ref ((s.heap.size + 19)), .ref ((s.heap.size + 20)), .ref ((s.heap.size + 21)), .ref ((s.heap.size + 22)), .int 0, .int 0, .int 0, .ref ((s.heap.size + 23)), .ref ((s.heap.size + 24)), .int 0, .int 0, .ref ((s.heap.size + 25)), .null, .null, .null, .null, .null, .null, .int 0, .int 0, .int 0, .int 0, .int 0]) rfl d_M_init_215 (fun H locs f9 hz oq hS => ?_)
  have hA := arO_put hA hxn oq
  have hN9 : H.size = s.heap.size + 26 := by omega
  refine lv_aload_n hx hb d_M_init_218 rfl (lv_at hl 0 rfl) ?_
  refine lv_bipush (v := nI 10) hx hb d_M_init_219 (by decide) ?_
  have hS0 := hS
  refine s_newa hx hb (hts _ (in_5 (List.mem_of_getElem? (i := 108) rfl) rfl)) (ty := .int) rfl rfl hK hS 4 rfl (a0 := (10, .inl (fun _ => 0))) (fun _ => vp_cell_i _ _ _) (nI_pos (by omega)) (nI_clamp (by omega)) (by show 10 * 4 ≤ 536870912; omega) (by show 24 + 1 + 1 + 1 ≤ 32; omega) (by show 7631 + 10 + 10 + 10 ≤ 7845; omega) d_M_init_221 (fun q3 H hq f_q3 hz o1 hS => ?_)
  have lt_x_q3 : x < q3 := by rw [hq]; exact ob_lt f9
  have f9 := ob_kept f9 (o1 _ lt_x_q3)
  have ge_q3 : s.heap.size ≤ q3 := by rw [hq]; exact hS0.1
  have e_q3 : q3 = s.heap.size + 26 := by omega
  subst e_q3
  have hA := arO_new hA (k := 26) ⟨fun z => absurd z (by decide), fun _ => f_q3⟩ (fun q9 h9 => o1 q9 h9)
  have hN9 : H.size = s.heap.size + 27 := by omega
  refine s_putF (ci := 8) (C := R_M) (T := F_M) (N := 46) hx hb hts i_M t_M t_M_ok n_M hown hK hS (Or.inl rfl) f9 rfl 35 (by decide) (hts _ (in_5 (List.mem_of_getElem? (i := 4) rfl) rfl)) (fun _ h9 => h9) rfl hnm rfl (v := .ref ((s.heap.size + 26))) rfl rfl rfl (Nat.le_of_ble_eq_true rfl) (fs2 := [.int 0, .ref ((s.heap.size + 0)), .int 0, .ref ((s.heap.size + 1)), .ref ((s.heap.size + 2)), .ref ((s.heap.size + 3)), .ref ((s.heap.size + 4)), .ref ((s.heap.size + 5)), .ref ((s.heap.size + 6)), .ref ((s.heap.size + 7)), .ref ((s.heap.size + 8)), .ref ((s.heap.size + 9)), .ref ((s.heap.size + 10)), .ref ((s.heap.size + 11)), .ref ((s.heap.size + 12)), .int 0, .int 0, .ref ((s.heap.size + 13)), .ref ((s.heap.size + 14)), .ref ((s.heap.size + 15)), .ref ((s.heap.size + 16)), .ref ((s.heap.size + 17)), .ref ((s.heap.size + 18)), .ref ((s.heap.size + 19)), .ref ((s.heap.size + 20)), .ref ((s.heap.size + 21)), .ref ((s.heap.size + 22)), .int 0, .int 0, .int 0, .ref ((s.heap.size + 23)), .ref ((s.heap.size + 24)), .int 0, .int 0, .ref ((s.heap.size + 25)), .ref ((s.heap.size + 26)), .null, .null, .null, .null, .null, .int 0, .int 0, .int 0, .int 0, .int 0]) rfl d_M_init_223 (fun H locs f9 hz oq hS => ?_)
  have hA := arO_put hA hxn oq
  have hN9 : H.size = s.heap.size + 27 := by omega
  refine lv_aload_n hx hb d_M_init_226 rfl (lv_at hl 0 rfl) ?_
  refine lv_sipush (v := nI 128) hx hb d_M_init_227 (by decide) ?_
  have hS0 := hS
  refine s_newa hx hb (hts _ (in_3 (List.mem_of_getElem? (i := 8) rfl) rfl)) (ty := .long) rfl rfl hK hS 1 rfl (a0 := (128, .inr (.inl (fun _ => 0)))) (fun _ => vp_cell_l _ _ _) (nI_pos (by omega)) (nI_clamp (by omega)) (by show 128 * 8 ≤ 536870912; omega) (by show 24 + 1 + 1 + 1 + 1 ≤ 32; omega) (by show 7631 + 10 + 10 + 10 + 128 ≤ 7845; omega) d_M_init_230 (fun q4 H hq f_q4 hz o1 hS => ?_)
  have lt_x_q4 : x < q4 := by rw [hq]; exact ob_lt f9
  have f9 := ob_kept f9 (o1 _ lt_x_q4)
  have ge_q4 : s.heap.size ≤ q4 := by rw [hq]; exact hS0.1
  have e_q4 : q4 = s.heap.size + 27 := by omega
  subst e_q4
  have hA := arO_new hA (k := 27) ⟨fun _ => f_q4, fun z => absurd rfl z⟩ (fun q9 h9 => o1 q9 h9)
  have hN9 : H.size = s.heap.size + 28 := by omega
  refine s_putF (ci := 8) (C := R_M) (T := F_M) (N := 46) hx hb hts i_M t_M t_M_ok n_M hown hK hS (Or.inl rfl) f9 rfl 36 (by decide) (hts _ (in_5 (List.mem_of_getElem? (i := 5) rfl) rfl)) (fun _ h9 => h9) rfl hnm rfl (v := .ref ((s.heap.size + 27))) rfl rfl rfl (Nat.le_of_ble_eq_true rfl) (fs2 := [.int 0, .ref ((s.heap.size + 0)), .int 0, .ref ((s.heap.size + 1)), .ref ((s.heap.size + 2)), .ref ((s.heap.size + 3)), .ref ((s.heap.size + 4)), .ref ((s.heap.size + 5)), .ref ((s.heap.size + 6)), .ref ((s.heap.size + 7)), .ref ((s.heap.size + 8)), .ref ((s.heap.size + 9)), .ref ((s.heap.size + 10)), .ref ((s.heap.size + 11)), .ref ((s.heap.size + 12)), .int 0, .int 0, .ref ((s.heap.size + 13)), .ref ((s.heap.size + 14)), .ref ((s.heap.size + 15)), .ref ((s.heap.size + 16)), .ref ((s.heap.size + 17)), .ref ((s.heap.size + 18)), .ref ((s.heap.size + 19)), .ref ((s.heap.size + 20)), .ref ((s.heap.size + 21)), .ref ((s.heap.size + 22)), .int 0, .int 0, .int 0, .ref ((s.heap.size + 23)), .ref ((s.heap.size + 24)), .int 0, .int 0, .ref ((s.heap.size + 25)), .ref ((s.heap.size + 26)), .ref ((s.heap.size + 27)), .null, .null, .null, .null, .int 0, .int 0, .int 0, .int 0, .int 0]) rfl d_M_init_232 (fun H locs f9 hz oq hS => ?_)
  have hA := arO_put hA hxn oq
  have hN9 : H.size = s.heap.size + 28 := by omega
  exact lp_M_init28 C0 hnm hx9 hxn H locs f9 hA hN9 hS ls hl
set_option maxHeartbeats 4000000 in
set_option maxRecDepth 100000 in
theorem lp_M_init20 {p : Program} {l : Launch} {e : Env} {s : State} {m : MethodId} {args : Array Value} {below : List Frame} {meth : Method} {c : Code} {g : gG} (C0 : cF g p s m args meth c b_M_init 1 "RegistryLogModel" none) (hnm : meth.name = "<init>") {x : Nat} (hx9 : g.2.2.1 ≤ x) (hxn : x < s.heap.size) : ∀ (H : Heap) (locs : List Loc), ob g H x 8 [.int 0, .ref ((s.heap.size + 0)), .int 0, .ref ((s.heap.size + 1)), .ref ((s.heap.size + 2)), .ref ((s.heap.size + 3)), .ref ((s.heap.size + 4)), .ref ((s.heap.size + 5)), .ref ((s.heap.size + 6)), .ref ((s.heap.size + 7)), .ref ((s.heap.size + 8)), .ref ((s.heap.size + 9)), .ref ((s.heap.size + 10)), .ref ((s.heap.size + 11)), .ref ((s.heap.size + 12)), .int 0, .int 0, .ref ((s.heap.size + 13)), .ref ((s.heap.size + 14)), .ref ((s.heap.size + 15)), .ref ((s.heap.size + 16)), .ref ((s.heap.size + 17)), .ref ((s.heap.size + 18)), .ref ((s.heap.size + 19)), .null, .null, .null, .int 0, .int 0, .int 0, .null, .null, .int 0, .int 0, .null, .null, .null, .null, .null, .null, .null, .int 0, .int 0, .int 0, .int 0, .int 0] → arO g H s.heap.size 20 → H.size = s.heap.size + 20 → va_S (fW s.heap (fun q => q = x)) s.heap H locs → ∀ (ls : Array Slot), lv_has ls 1 [(0, .ref x)] → W p l e (rmk 1 32 7845 20) s m args below meth c H locs 20 7261 (MQ below (qW s.heap (fun q => q = x) (fun r H1 => r = none ∧ mW g H1 x (fun j => s.heap.size + oL9.getD j 0) (fun _ => 0) (fun _ _ => 0) (fun _ _ => 0))) args s 32 7845 (fW s.heap (fun q => q = x))) (F0 m 170 ls []) := by
  obtain ⟨hx, hb, hml, hown, hts, hr, hlk, hK⟩ := id C0
  intro H locs f9 hA hN9 hS ls hl
  refine lv_aload_n hx hb d_M_init_170 rfl (lv_at hl 0 rfl) ?_
  refine lv_bipush (v := nI 120) hx hb d_M_init_171 (by decide) ?_
  have hS0 := hS
  refine s_newa hx hb (hts _ (in_5 (List.mem_of_getElem? (i := 108) rfl) rfl)) (ty := .int) rfl rfl hK hS 4 rfl (a0 := (120, .inl (fun _ => 0))) (fun _ => vp_cell_i _ _ _) (nI_pos (by omega)) (nI_clamp (by omega)) (by show 120 * 4 ≤ 536870912; omega) (by show 20 + 1 ≤ 32; omega) (by show 7261 + 120 ≤ 7845; omega) d_M_init_173 (fun q1 H hq f_q1 hz o1 hS => ?_)
  have lt_x_q1 : x < q1 := by rw [hq]; exact ob_lt f9
  have f9 := ob_kept f9 (o1 _ lt_x_q1)
  have ge_q1 : s.heap.size ≤ q1 := by rw [hq]; exact hS0.1
  have e_q1 : q1 = s.heap.size + 20 := by omega
  subst e_q1
  have hA := arO_new hA (k := 20) ⟨fun z => absurd z (by decide), fun _ => f_q1⟩ (fun q9 h9 => o1 q9 h9)
  have hN9 : H.size = s.heap.size + 21 := by omega
  refine s_putF (ci := 8) (C := R_M) (T := F_M) (N := 46) hx hb hts i_M t_M t_M_ok n_M hown hK hS (Or.inl rfl) f9 rfl 24 (by decide) (hts _ (in_4 (List.mem_of_getElem? (i := 233) rfl) rfl)) (fun _ h9 => h9) rfl hnm rfl (v := .ref ((s.heap.size + 20))) rfl rfl rfl (Nat.le_of_ble_eq_true rfl) (fs2 := [.int 0, .ref ((s.heap.size + 0)), .int 0, .ref ((s.heap.size + 1)), .ref ((s.heap.size + 2)), .ref ((s.heap.size + 3)), .ref ((s.heap.size + 4)), .ref ((s.heap.size + 5)), .ref ((s.heap.size + 6)), .ref ((s.heap.size + 7)), .ref ((s.heap.size + 8)), .ref ((s.heap.size + 9)), .ref ((s.heap.size + 10)), .ref ((s.heap.size + 11)), .ref ((s.heap.size + 12)), .int 0, .int 0, .ref ((s.heap.size + 13)), .ref ((s.heap.size + 14)), .ref ((s.heap.size + 15)), .ref ((s.heap.size + 16)), .ref ((s.heap.size + 17)), .ref ((s.heap.size + 18)), .ref ((s.heap.size + 19)), .ref ((s.heap.size + 20)), .null, .null, .int 0, .int 0, .int 0, .null, .null, .int 0, .int 0, .null, .null, .null, .null, .null, .null, .null, .int 0, .int 0, .int 0, .int 0, .int 0]) rfl d_M_init_175 (fun H locs f9 hz oq hS => ?_)
  have hA := arO_put hA hxn oq
  have hN9 : H.size = s.heap.size + 21 := by omega
  refine lv_aload_n hx hb d_M_init_178 rfl (lv_at hl 0 rfl) ?_
  refine lv_bipush (v := nI 120) hx hb d_M_init_179 (by decide) ?_
  have hS0 := hS
  refine s_newa hx hb (hts _ (in_5 (List.mem_of_getElem? (i := 108) rfl) rfl)) (ty := .int) rfl rfl hK hS 4 rfl (a0 := (120, .inl (fun _ => 0))) (fun _ => vp_cell_i _ _ _) (nI_pos (by omega)) (nI_clamp (by omega)) (by show 120 * 4 ≤ 536870912; omega) (by show 20 + 1 + 1 ≤ 32; omega) (by show 7261 + 120 + 120 ≤ 7845; omega) d_M_init_181 (fun q2 H hq f_q2 hz o1 hS => ?_)
  have lt_x_q2 : x < q2 := by rw [hq]; exact ob_lt f9
  have f9 := ob_kept f9 (o1 _ lt_x_q2)
  have ge_q2 : s.heap.size ≤ q2 := by rw [hq]; exact hS0.1
  have e_q2 : q2 = s.heap.size + 21 := by omega
  subst e_q2
  have hA := arO_new hA (k := 21) ⟨fun z => absurd z (by decide), fun _ => f_q2⟩ (fun q9 h9 => o1 q9 h9)
  have hN9 : H.size = s.heap.size + 22 := by omega
  refine s_putF (ci := 8) (C := R_M) (T := F_M) (N := 46) hx hb hts i_M t_M t_M_ok n_M hown hK hS (Or.inl rfl) f9 rfl 25 (by decide) (hts _ (in_4 (List.mem_of_getElem? (i := 234) rfl) rfl)) (fun _ h9 => h9) rfl hnm rfl (v := .ref ((s.heap.size + 21))) rfl rfl rfl (Nat.le_of_ble_eq_true rfl) (fs2 := [.int 0, .ref ((s.heap.size + 0)), .int 0, .ref ((s.heap.size + 1)), .ref ((s.heap.size + 2)), .ref ((s.heap.size + 3)), .ref ((s.heap.size + 4)), .ref ((s.heap.size + 5)), .ref ((s.heap.size + 6)), .ref ((s.heap.size + 7)), .ref ((s.heap.size + 8)), .ref ((s.heap.size + 9)), .ref ((s.heap.size + 10)), .ref ((s.heap.size + 11)), .ref ((s.heap.size + 12)), .int 0, .int 0, .ref ((s.heap.size + 13)), .ref ((s.heap.size + 14)), .ref ((s.heap.size + 15)), .ref ((s.heap.size + 16)), .ref ((s.heap.size + 17)), .ref ((s.heap.size + 18)), .ref ((s.heap.size + 19)), .ref ((s.heap.size + 20)), .ref ((s.heap.size + 21)), .null, .int 0, .int 0, .int 0, .null, .null, .int 0, .int 0, .null, .null, .null, .null, .null, .null, .null, .int 0, .int 0, .int 0, .int 0, .int 0]) rfl d_M_init_183 (fun H locs f9 hz oq hS => ?_)
  have hA := arO_put hA hxn oq
  have hN9 : H.size = s.heap.size + 22 := by omega
  refine lv_aload_n hx hb d_M_init_186 rfl (lv_at hl 0 rfl) ?_
  refine lv_bipush (v := nI 120) hx hb d_M_init_187 (by decide) ?_
  have hS0 := hS
  refine s_newa hx hb (hts _ (in_5 (List.mem_of_getElem? (i := 108) rfl) rfl)) (ty := .int) rfl rfl hK hS 4 rfl (a0 := (120, .inl (fun _ => 0))) (fun _ => vp_cell_i _ _ _) (nI_pos (by omega)) (nI_clamp (by omega)) (by show 120 * 4 ≤ 536870912; omega) (by show 20 + 1 + 1 + 1 ≤ 32; omega) (by show 7261 + 120 + 120 + 120 ≤ 7845; omega) d_M_init_189 (fun q3 H hq f_q3 hz o1 hS => ?_)
  have lt_x_q3 : x < q3 := by rw [hq]; exact ob_lt f9
  have f9 := ob_kept f9 (o1 _ lt_x_q3)
  have ge_q3 : s.heap.size ≤ q3 := by rw [hq]; exact hS0.1
  have e_q3 : q3 = s.heap.size + 22 := by omega
  subst e_q3
  have hA := arO_new hA (k := 22) ⟨fun z => absurd z (by decide), fun _ => f_q3⟩ (fun q9 h9 => o1 q9 h9)
  have hN9 : H.size = s.heap.size + 23 := by omega
  refine s_putF (ci := 8) (C := R_M) (T := F_M) (N := 46) hx hb hts i_M t_M t_M_ok n_M hown hK hS (Or.inl rfl) f9 rfl 26 (by decide) (hts _ (in_4 (List.mem_of_getElem? (i := 235) rfl) rfl)) (fun _ h9 => h9) rfl hnm rfl (v := .ref ((s.heap.size + 22))) rfl rfl rfl (Nat.le_of_ble_eq_true rfl) (fs2 := [.int 0, .ref ((s.heap.size + 0)), .int 0, .ref ((s.heap.size + 1)), .ref ((s.heap.size + 2)), .ref ((s.heap.size + 3)), .ref ((s.heap.size + 4)), .ref ((s.heap.size + 5)), .ref ((s.heap.size + 6)), .ref ((s.heap.size + 7)), .ref ((s.heap.size + 8)), .ref ((s.heap.size + 9)), .ref ((s.heap.size + 10)), .ref ((s.heap.size + 11)), .ref ((s.heap.size + 12)), .int 0, .int 0, .ref ((s.heap.size + 13)), .ref ((s.heap.size + 14)), .ref ((s.heap.size + 15)), .ref ((s.heap.size + 16)), .ref ((s.heap.size + 17)), .ref ((s.heap.size + 18)), .ref ((s.heap.size + 19)), .ref ((s.heap.size + 20)), .ref ((s.heap.size + 21)), .ref ((s.heap.size + 22)), .int 0, .int 0, .int 0, .null, .null, .int 0, .int 0, .null, .null, .null, .null, .null, .null, .null, .int 0, .int 0, .int 0, .int 0, .int 0]) rfl d_M_init_191 (fun H locs f9 hz oq hS => ?_)
  have hA := arO_put hA hxn oq
  have hN9 : H.size = s.heap.size + 23 := by omega
  refine lv_aload_n hx hb d_M_init_194 rfl (lv_at hl 0 rfl) ?_
  refine lv_bipush (v := nI 10) hx hb d_M_init_195 (by decide) ?_
  have hS0 := hS
  refine s_newa hx hb (hts _ (in_5 (List.mem_of_getElem? (i := 108) rfl) rfl)) (ty := .int) rfl rfl hK hS 4 rfl (a0 := (10, .inl (fun _ => 0))) (fun _ => vp_cell_i _ _ _) (nI_pos (by omega)) (nI_clamp (by omega)) (by show 10 * 4 ≤ 536870912; omega) (by show 20 + 1 + 1 + 1 + 1 ≤ 32; omega) (by show 7261 + 120 + 120 + 120 + 10 ≤ 7845; omega) d_M_init_197 (fun q4 H hq f_q4 hz o1 hS => ?_)
  have lt_x_q4 : x < q4 := by rw [hq]; exact ob_lt f9
  have f9 := ob_kept f9 (o1 _ lt_x_q4)
  have ge_q4 : s.heap.size ≤ q4 := by rw [hq]; exact hS0.1
  have e_q4 : q4 = s.heap.size + 23 := by omega
  subst e_q4
  have hA := arO_new hA (k := 23) ⟨fun z => absurd z (by decide), fun _ => f_q4⟩ (fun q9 h9 => o1 q9 h9)
  have hN9 : H.size = s.heap.size + 24 := by omega
  refine s_putF (ci := 8) (C := R_M) (T := F_M) (N := 46) hx hb hts i_M t_M t_M_ok n_M hown hK hS (Or.inl rfl) f9 rfl 30 (by decide) (hts _ (in_4 (List.mem_of_getElem? (i := 239) rfl) rfl)) (fun _ h9 => h9) rfl hnm rfl (v := .ref ((s.heap.size + 23))) rfl rfl rfl (Nat.le_of_ble_eq_true rfl) (fs2 := [.int 0, .ref ((s.heap.size + 0)), .int 0, .ref ((s.heap.size + 1)), .ref ((s.heap.size + 2)), .ref ((s.heap.size + 3)), .ref ((s.heap.size + 4)), .ref ((s.heap.size + 5)), .ref ((s.heap.size + 6)), .ref ((s.heap.size + 7)), .ref ((s.heap.size + 8)), .ref ((s.heap.size + 9)), .ref ((s.heap.size + 10)), .ref ((s.heap.size + 11)), .ref ((s.heap.size + 12)), .int 0, .int 0, .ref ((s.heap.size + 13)), .ref ((s.heap.size + 14)), .ref ((s.heap.size + 15)), .ref ((s.heap.size + 16)), .ref ((s.heap.size + 17)), .ref ((s.heap.size + 18)), .ref ((s.heap.size + 19)), .ref ((s.heap.size + 20)), .ref ((s.heap.size + 21)), .ref ((s.heap.size + 22)), .int 0, .int 0, .int 0, .ref ((s.heap.size + 23)), .null, .int 0, .int 0, .null, .null, .null, .null, .null, .null, .null, .int 0, .int 0, .int 0, .int 0, .int 0]) rfl d_M_init_199 (fun H locs f9 hz oq hS => ?_)
  have hA := arO_put hA hxn oq
  have hN9 : H.size = s.heap.size + 24 := by omega
  exact lp_M_init24 C0 hnm hx9 hxn H locs f9 hA hN9 hS ls hl
set_option maxHeartbeats 4000000 in
set_option maxRecDepth 100000 in
theorem lp_M_init16 {p : Program} {l : Launch} {e : Env} {s : State} {m : MethodId} {args : Array Value} {below : List Frame} {meth : Method} {c : Code} {g : gG} (C0 : cF g p s m args meth c b_M_init 1 "RegistryLogModel" none) (hnm : meth.name = "<init>") {x : Nat} (hx9 : g.2.2.1 ≤ x) (hxn : x < s.heap.size) : ∀ (H : Heap) (locs : List Loc), ob g H x 8 [.int 0, .ref ((s.heap.size + 0)), .int 0, .ref ((s.heap.size + 1)), .ref ((s.heap.size + 2)), .ref ((s.heap.size + 3)), .ref ((s.heap.size + 4)), .ref ((s.heap.size + 5)), .ref ((s.heap.size + 6)), .ref ((s.heap.size + 7)), .ref ((s.heap.size + 8)), .ref ((s.heap.size + 9)), .ref ((s.heap.size + 10)), .ref ((s.heap.size + 11)), .ref ((s.heap.size + 12)), .int 0, .int 0, .ref ((s.heap.size + 13)), .ref ((s.heap.size + 14)), .ref ((s.heap.size + 15)), .null, .null, .null, .null, .null, .null, .null, .int 0, .int 0, .int 0, .null, .null, .int 0, .int 0, .null, .null, .null, .null, .null, .null, .null, .int 0, .int 0, .int 0, .int 0, .int 0] → arO g H s.heap.size 16 → H.size = s.heap.size + 16 → va_S (fW s.heap (fun q => q = x)) s.heap H locs → ∀ (ls : Array Slot), lv_has ls 1 [(0, .ref x)] → W p l e (rmk 1 32 7845 20) s m args below meth c H locs 16 6661 (MQ below (qW s.heap (fun q => q = x) (fun r H1 => r = none ∧ mW g H1 x (fun j => s.heap.size + oL9.getD j 0) (fun _ => 0) (fun _ _ => 0) (fun _ _ => 0))) args s 32 7845 (fW s.heap (fun q => q = x))) (F0 m 137 ls []) := by
  obtain ⟨hx, hb, hml, hown, hts, hr, hlk, hK⟩ := id C0
  intro H locs f9 hA hN9 hS ls hl
  refine lv_aload_n hx hb d_M_init_137 rfl (lv_at hl 0 rfl) ?_
  refine lv_sipush (v := nI 240) hx hb d_M_init_138 (by decide) ?_
  have hS0 := hS
  refine s_newa hx hb (hts _ (in_5 (List.mem_of_getElem? (i := 108) rfl) rfl)) (ty := .int) rfl rfl hK hS 4 rfl (a0 := (240, .inl (fun _ => 0))) (fun _ => vp_cell_i _ _ _) (nI_pos (by omega)) (nI_clamp (by omega)) (by show 240 * 4 ≤ 536870912; omega) (by show 16 + 1 ≤ 32; omega) (by show 6661 + 240 ≤ 7845; omega) d_M_init_141 (fun q1 H hq f_q1 hz o1 hS => ?_)
  have lt_x_q1 : x < q1 := by rw [hq]; exact ob_lt f9
  have f9 := ob_kept f9 (o1 _ lt_x_q1)
  have ge_q1 : s.heap.size ≤ q1 := by rw [hq]; exact hS0.1
  have e_q1 : q1 = s.heap.size + 16 := by omega
  subst e_q1
  have hA := arO_new hA (k := 16) ⟨fun z => absurd z (by decide), fun _ => f_q1⟩ (fun q9 h9 => o1 q9 h9)
  have hN9 : H.size = s.heap.size + 17 := by omega
  refine s_putF (ci := 8) (C := R_M) (T := F_M) (N := 46) hx hb hts i_M t_M t_M_ok n_M hown hK hS (Or.inl rfl) f9 rfl 20 (by decide) (hts _ (in_4 (List.mem_of_getElem? (i := 229) rfl) rfl)) (fun _ h9 => h9) rfl hnm rfl (v := .ref ((s.heap.size + 16))) rfl rfl rfl (Nat.le_of_ble_eq_true rfl) (fs2 := [.int 0, .ref ((s.heap.size + 0)), .int 0, .ref ((s.heap.size + 1)), .ref ((s.heap.size + 2)), .ref ((s.heap.size + 3)), .ref ((s.heap.size + 4)), .ref ((s.heap.size + 5)), .ref ((s.heap.size + 6)), .ref ((s.heap.size + 7)), .ref ((s.heap.size + 8)), .ref ((s.heap.size + 9)), .ref ((s.heap.size + 10)), .ref ((s.heap.size + 11)), .ref ((s.heap.size + 12)), .int 0, .int 0, .ref ((s.heap.size + 13)), .ref ((s.heap.size + 14)), .ref ((s.heap.size + 15)), .ref ((s.heap.size + 16)), .null, .null, .null, .null, .null, .null, .int 0, .int 0, .int 0, .null, .null, .int 0, .int 0, .null, .null, .null, .null, .null, .null, .null, .int 0, .int 0, .int 0, .int 0, .int 0]) rfl d_M_init_143 (fun H locs f9 hz oq hS => ?_)
  have hA := arO_put hA hxn oq
  have hN9 : H.size = s.heap.size + 17 := by omega
  refine lv_aload_n hx hb d_M_init_146 rfl (lv_at hl 0 rfl) ?_
  refine lv_bipush (v := nI 120) hx hb d_M_init_147 (by decide) ?_
  have hS0 := hS
  refine s_newa hx hb (hts _ (in_5 (List.mem_of_getElem? (i := 108) rfl) rfl)) (ty := .int) rfl rfl hK hS 4 rfl (a0 := (120, .inl (fun _ => 0))) (fun _ => vp_cell_i _ _ _) (nI_pos (by omega)) (nI_clamp (by omega)) (by show 120 * 4 ≤ 536870912; omega) (by show 16 + 1 + 1 ≤ 32; omega) (by show 6661 + 240 + 120 ≤ 7845; omega) d_M_init_149 (fun q2 H hq f_q2 hz o1 hS => ?_)
  have lt_x_q2 : x < q2 := by rw [hq]; exact ob_lt f9
  have f9 := ob_kept f9 (o1 _ lt_x_q2)
  have ge_q2 : s.heap.size ≤ q2 := by rw [hq]; exact hS0.1
  have e_q2 : q2 = s.heap.size + 17 := by omega
  subst e_q2
  have hA := arO_new hA (k := 17) ⟨fun z => absurd z (by decide), fun _ => f_q2⟩ (fun q9 h9 => o1 q9 h9)
  have hN9 : H.size = s.heap.size + 18 := by omega
  refine s_putF (ci := 8) (C := R_M) (T := F_M) (N := 46) hx hb hts i_M t_M t_M_ok n_M hown hK hS (Or.inl rfl) f9 rfl 21 (by decide) (hts _ (in_4 (List.mem_of_getElem? (i := 230) rfl) rfl)) (fun _ h9 => h9) rfl hnm rfl (v := .ref ((s.heap.size + 17))) rfl rfl rfl (Nat.le_of_ble_eq_true rfl) (fs2 := [.int 0, .ref ((s.heap.size + 0)), .int 0, .ref ((s.heap.size + 1)), .ref ((s.heap.size + 2)), .ref ((s.heap.size + 3)), .ref ((s.heap.size + 4)), .ref ((s.heap.size + 5)), .ref ((s.heap.size + 6)), .ref ((s.heap.size + 7)), .ref ((s.heap.size + 8)), .ref ((s.heap.size + 9)), .ref ((s.heap.size + 10)), .ref ((s.heap.size + 11)), .ref ((s.heap.size + 12)), .int 0, .int 0, .ref ((s.heap.size + 13)), .ref ((s.heap.size + 14)), .ref ((s.heap.size + 15)), .ref ((s.heap.size + 16)), .ref ((s.heap.size + 17)), .null, .null, .null, .null, .null, .int 0, .int 0, .int 0, .null, .null, .int 0, .int 0, .null, .null, .null, .null, .null, .null, .null, .int 0, .int 0, .int 0, .int 0, .int 0]) rfl d_M_init_151 (fun H locs f9 hz oq hS => ?_)
  have hA := arO_put hA hxn oq
  have hN9 : H.size = s.heap.size + 18 := by omega
  refine lv_aload_n hx hb d_M_init_154 rfl (lv_at hl 0 rfl) ?_
  refine lv_bipush (v := nI 120) hx hb d_M_init_155 (by decide) ?_
  have hS0 := hS
  refine s_newa hx hb (hts _ (in_5 (List.mem_of_getElem? (i := 108) rfl) rfl)) (ty := .int) rfl rfl hK hS 4 rfl (a0 := (120, .inl (fun _ => 0))) (fun _ => vp_cell_i _ _ _) (nI_pos (by omega)) (nI_clamp (by omega)) (by show 120 * 4 ≤ 536870912; omega) (by show 16 + 1 + 1 + 1 ≤ 32; omega) (by show 6661 + 240 + 120 + 120 ≤ 7845; omega) d_M_init_157 (fun q3 H hq f_q3 hz o1 hS => ?_)
  have lt_x_q3 : x < q3 := by rw [hq]; exact ob_lt f9
  have f9 := ob_kept f9 (o1 _ lt_x_q3)
  have ge_q3 : s.heap.size ≤ q3 := by rw [hq]; exact hS0.1
  have e_q3 : q3 = s.heap.size + 18 := by omega
  subst e_q3
  have hA := arO_new hA (k := 18) ⟨fun z => absurd z (by decide), fun _ => f_q3⟩ (fun q9 h9 => o1 q9 h9)
  have hN9 : H.size = s.heap.size + 19 := by omega
  refine s_putF (ci := 8) (C := R_M) (T := F_M) (N := 46) hx hb hts i_M t_M t_M_ok n_M hown hK hS (Or.inl rfl) f9 rfl 22 (by decide) (hts _ (in_4 (List.mem_of_getElem? (i := 231) rfl) rfl)) (fun _ h9 => h9) rfl hnm rfl (v := .ref ((s.heap.size + 18))) rfl rfl rfl (Nat.le_of_ble_eq_true rfl) (fs2 := [.int 0, .ref ((s.heap.size + 0)), .int 0, .ref ((s.heap.size + 1)), .ref ((s.heap.size + 2)), .ref ((s.heap.size + 3)), .ref ((s.heap.size + 4)), .ref ((s.heap.size + 5)), .ref ((s.heap.size + 6)), .ref ((s.heap.size + 7)), .ref ((s.heap.size + 8)), .ref ((s.heap.size + 9)), .ref ((s.heap.size + 10)), .ref ((s.heap.size + 11)), .ref ((s.heap.size + 12)), .int 0, .int 0, .ref ((s.heap.size + 13)), .ref ((s.heap.size + 14)), .ref ((s.heap.size + 15)), .ref ((s.heap.size + 16)), .ref ((s.heap.size + 17)), .ref ((s.heap.size + 18)), .null, .null, .null, .null, .int 0, .int 0, .int 0, .null, .null, .int 0, .int 0, .null, .null, .null, .null, .null, .null, .null, .int 0, .int 0, .int 0, .int 0, .int 0]) rfl d_M_init_159 (fun H locs f9 hz oq hS => ?_)
  have hA := arO_put hA hxn oq
  have hN9 : H.size = s.heap.size + 19 := by omega
  refine lv_aload_n hx hb d_M_init_162 rfl (lv_at hl 0 rfl) ?_
  refine lv_bipush (v := nI 120) hx hb d_M_init_163 (by decide) ?_
  have hS0 := hS
  refine s_newa hx hb (hts _ (in_5 (List.mem_of_getElem? (i := 108) rfl) rfl)) (ty := .int) rfl rfl hK hS 4 rfl (a0 := (120, .inl (fun _ => 0))) (fun _ => vp_cell_i _ _ _) (nI_pos (by omega)) (nI_clamp (by omega)) (by show 120 * 4 ≤ 536870912; omega) (by show 16 + 1 + 1 + 1 + 1 ≤ 32; omega) (by show 6661 + 240 + 120 + 120 + 120 ≤ 7845; omega) d_M_init_165 (fun q4 H hq f_q4 hz o1 hS => ?_)
  have lt_x_q4 : x < q4 := by rw [hq]; exact ob_lt f9
  have f9 := ob_kept f9 (o1 _ lt_x_q4)
  have ge_q4 : s.heap.size ≤ q4 := by rw [hq]; exact hS0.1
  have e_q4 : q4 = s.heap.size + 19 := by omega
  subst e_q4
  have hA := arO_new hA (k := 19) ⟨fun z => absurd z (by decide), fun _ => f_q4⟩ (fun q9 h9 => o1 q9 h9)
  have hN9 : H.size = s.heap.size + 20 := by omega
  refine s_putF (ci := 8) (C := R_M) (T := F_M) (N := 46) hx hb hts i_M t_M t_M_ok n_M hown hK hS (Or.inl rfl) f9 rfl 23 (by decide) (hts _ (in_4 (List.mem_of_getElem? (i := 232) rfl) rfl)) (fun _ h9 => h9) rfl hnm rfl (v := .ref ((s.heap.size + 19))) rfl rfl rfl (Nat.le_of_ble_eq_true rfl) (fs2 := [.int 0, .ref ((s.heap.size + 0)), .int 0, .ref ((s.heap.size + 1)), .ref ((s.heap.size + 2)), .ref ((s.heap.size + 3)), .ref ((s.heap.size + 4)), .ref ((s.heap.size + 5)), .ref ((s.heap.size + 6)), .ref ((s.heap.size + 7)), .ref ((s.heap.size + 8)), .ref ((s.heap.size + 9)), .ref ((s.heap.size + 10)), .ref ((s.heap.size + 11)), .ref ((s.heap.size + 12)), .int 0, .int 0, .ref ((s.heap.size + 13)), .ref ((s.heap.size + 14)), .ref ((s.heap.size + 15)), .ref ((s.heap.size + 16)), .ref ((s.heap.size + 17)), .ref ((s.heap.size + 18)), .ref ((s.heap.size + 19)), .null, .null, .null, .int 0, .int 0, .int 0, .null, .null, .int 0, .int 0, .null, .null, .null, .null, .null, .null, .null, .int 0, .int 0, .int 0, .int 0, .int 0]) rfl d_M_init_167 (fun H locs f9 hz oq hS => ?_)
  have hA := arO_put hA hxn oq
  have hN9 : H.size = s.heap.size + 20 := by omega
  exact lp_M_init20 C0 hnm hx9 hxn H locs f9 hA hN9 hS ls hl
set_option maxHeartbeats 4000000 in
set_option maxRecDepth 100000 in
theorem lp_M_init12 {p : Program} {l : Launch} {e : Env} {s : State} {m : MethodId} {args : Array Value} {below : List Frame} {meth : Method} {c : Code} {g : gG} (C0 : cF g p s m args meth c b_M_init 1 "RegistryLogModel" none) (hnm : meth.name = "<init>") {x : Nat} (hx9 : g.2.2.1 ≤ x) (hxn : x < s.heap.size) : ∀ (H : Heap) (locs : List Loc), ob g H x 8 [.int 0, .ref ((s.heap.size + 0)), .int 0, .ref ((s.heap.size + 1)), .ref ((s.heap.size + 2)), .ref ((s.heap.size + 3)), .ref ((s.heap.size + 4)), .ref ((s.heap.size + 5)), .ref ((s.heap.size + 6)), .ref ((s.heap.size + 7)), .ref ((s.heap.size + 8)), .ref ((s.heap.size + 9)), .ref ((s.heap.size + 10)), .ref ((s.heap.size + 11)), .null, .int 0, .int 0, .null, .null, .null, .null, .null, .null, .null, .null, .null, .null, .int 0, .int 0, .int 0, .null, .null, .int 0, .int 0, .null, .null, .null, .null, .null, .null, .null, .int 0, .int 0, .int 0, .int 0, .int 0] → arO g H s.heap.size 12 → H.size = s.heap.size + 12 → va_S (fW s.heap (fun q => q = x)) s.heap H locs → ∀ (ls : Array Slot), lv_has ls 1 [(0, .ref x)] → W p l e (rmk 1 32 7845 20) s m args below meth c H locs 12 3765 (MQ below (qW s.heap (fun q => q = x) (fun r H1 => r = none ∧ mW g H1 x (fun j => s.heap.size + oL9.getD j 0) (fun _ => 0) (fun _ _ => 0) (fun _ _ => 0))) args s 32 7845 (fW s.heap (fun q => q = x))) (F0 m 102 ls []) := by
  obtain ⟨hx, hb, hml, hown, hts, hr, hlk, hK⟩ := id C0
  intro H locs f9 hA hN9 hS ls hl
  refine lv_aload_n hx hb d_M_init_102 rfl (lv_at hl 0 rfl) ?_
  refine lv_bipush (v := nI 16) hx hb d_M_init_103 (by decide) ?_
  have hS0 := hS
  refine s_newa hx hb (hts _ (in_3 (List.mem_of_getElem? (i := 8) rfl) rfl)) (ty := .long) rfl rfl hK hS 1 rfl (a0 := (16, .inr (.inl (fun _ => 0)))) (fun _ => vp_cell_l _ _ _) (nI_pos (by omega)) (nI_clamp (by omega)) (by show 16 * 8 ≤ 536870912; omega) (by show 12 + 1 ≤ 32; omega) (by show 3765 + 16 ≤ 7845; omega) d_M_init_105 (fun q1 H hq f_q1 hz o1 hS => ?_)
  have lt_x_q1 : x < q1 := by rw [hq]; exact ob_lt f9
  have f9 := ob_kept f9 (o1 _ lt_x_q1)
  have ge_q1 : s.heap.size ≤ q1 := by rw [hq]; exact hS0.1
  have e_q1 : q1 = s.heap.size + 12 := by omega
  subst e_q1
  have hA := arO_new hA (k := 12) ⟨fun _ => f_q1, fun z => absurd rfl z⟩ (fun q9 h9 => o1 q9 h9)
  have hN9 : H.size = s.heap.size + 13 := by omega
  refine s_putF (ci := 8) (C := R_M) (T := F_M) (N := 46) hx hb hts i_M t_M t_M_ok n_M hown hK hS (Or.inl rfl) f9 rfl 14 (by decide) (hts _ (in_4 (List.mem_of_getElem? (i := 223) rfl) rfl)) (fun _ h9 => h9) rfl hnm rfl (v := .ref ((s.heap.size + 12))) rfl rfl rfl (Nat.le_of_ble_eq_true rfl) (fs2 := [.int 0, .ref ((s.heap.size + 0)), .int 0, .ref ((s.heap.size + 1)), .ref ((s.heap.size + 2)), .ref ((s.heap.size + 3)), .ref ((s.heap.size + 4)), .ref ((s.heap.size + 5)), .ref ((s.heap.size + 6)), .ref ((s.heap.size + 7)), .ref ((s.heap.size + 8)), .ref ((s.heap.size + 9)), .ref ((s.heap.size + 10)), .ref ((s.heap.size + 11)), .ref ((s.heap.size + 12)), .int 0, .int 0, .null, .null, .null, .null, .null, .null, .null, .null, .null, .null, .int 0, .int 0, .int 0, .null, .null, .int 0, .int 0, .null, .null, .null, .null, .null, .null, .null, .int 0, .int 0, .int 0, .int 0, .int 0]) rfl d_M_init_107 (fun H locs f9 hz oq hS => ?_)
  have hA := arO_put hA hxn oq
  have hN9 : H.size = s.heap.size + 13 := by omega
  refine lv_aload_n hx hb d_M_init_110 rfl (lv_at hl 0 rfl) ?_
  refine lv_sipush (v := nI 2400) hx hb d_M_init_111 (by decide) ?_
  have hS0 := hS
  refine s_newa hx hb (hts _ (in_5 (List.mem_of_getElem? (i := 108) rfl) rfl)) (ty := .int) rfl rfl hK hS 4 rfl (a0 := (2400, .inl (fun _ => 0))) (fun _ => vp_cell_i _ _ _) (nI_pos (by omega)) (nI_clamp (by omega)) (by show 2400 * 4 ≤ 536870912; omega) (by show 12 + 1 + 1 ≤ 32; omega) (by show 3765 + 16 + 2400 ≤ 7845; omega) d_M_init_114 (fun q2 H hq f_q2 hz o1 hS => ?_)
  have lt_x_q2 : x < q2 := by rw [hq]; exact ob_lt f9
  have f9 := ob_kept f9 (o1 _ lt_x_q2)
  have ge_q2 : s.heap.size ≤ q2 := by rw [hq]; exact hS0.1
  have e_q2 : q2 = s.heap.size + 13 := by omega
  subst e_q2
  have hA := arO_new hA (k := 13) ⟨fun z => absurd z (by decide), fun _ => f_q2⟩ (fun q9 h9 => o1 q9 h9)
  have hN9 : H.size = s.heap.size + 14 := by omega
  refine s_putF (ci := 8) (C := R_M) (T := F_M) (N := 46) hx hb hts i_M t_M t_M_ok n_M hown hK hS (Or.inl rfl) f9 rfl 17 (by decide) (hts _ (in_4 (List.mem_of_getElem? (i := 226) rfl) rfl)) (fun _ h9 => h9) rfl hnm rfl (v := .ref ((s.heap.size + 13))) rfl rfl rfl (Nat.le_of_ble_eq_true rfl) (fs2 := [.int 0, .ref ((s.heap.size + 0)), .int 0, .ref ((s.heap.size + 1)), .ref ((s.heap.size + 2)), .ref ((s.heap.size + 3)), .ref ((s.heap.size + 4)), .ref ((s.heap.size + 5)), .ref ((s.heap.size + 6)), .ref ((s.heap.size + 7)), .ref ((s.heap.size + 8)), .ref ((s.heap.size + 9)), .ref ((s.heap.size + 10)), .ref ((s.heap.size + 11)), .ref ((s.heap.size + 12)), .int 0, .int 0, .ref ((s.heap.size + 13)), .null, .null, .null, .null, .null, .null, .null, .null, .null, .int 0, .int 0, .int 0, .null, .null, .int 0, .int 0, .null, .null, .null, .null, .null, .null, .null, .int 0, .int 0, .int 0, .int 0, .int 0]) rfl d_M_init_116 (fun H locs f9 hz oq hS => ?_)
  have hA := arO_put hA hxn oq
  have hN9 : H.size = s.heap.size + 14 := by omega
  refine lv_aload_n hx hb d_M_init_119 rfl (lv_at hl 0 rfl) ?_
  refine lv_sipush (v := nI 240) hx hb d_M_init_120 (by decide) ?_
  have hS0 := hS
  refine s_newa hx hb (hts _ (in_5 (List.mem_of_getElem? (i := 108) rfl) rfl)) (ty := .int) rfl rfl hK hS 4 rfl (a0 := (240, .inl (fun _ => 0))) (fun _ => vp_cell_i _ _ _) (nI_pos (by omega)) (nI_clamp (by omega)) (by show 240 * 4 ≤ 536870912; omega) (by show 12 + 1 + 1 + 1 ≤ 32; omega) (by show 3765 + 16 + 2400 + 240 ≤ 7845; omega) d_M_init_123 (fun q3 H hq f_q3 hz o1 hS => ?_)
  have lt_x_q3 : x < q3 := by rw [hq]; exact ob_lt f9
  have f9 := ob_kept f9 (o1 _ lt_x_q3)
  have ge_q3 : s.heap.size ≤ q3 := by rw [hq]; exact hS0.1
  have e_q3 : q3 = s.heap.size + 14 := by omega
  subst e_q3
  have hA := arO_new hA (k := 14) ⟨fun z => absurd z (by decide), fun _ => f_q3⟩ (fun q9 h9 => o1 q9 h9)
  have hN9 : H.size = s.heap.size + 15 := by omega
  refine s_putF (ci := 8) (C := R_M) (T := F_M) (N := 46) hx hb hts i_M t_M t_M_ok n_M hown hK hS (Or.inl rfl) f9 rfl 18 (by decide) (hts _ (in_4 (List.mem_of_getElem? (i := 227) rfl) rfl)) (fun _ h9 => h9) rfl hnm rfl (v := .ref ((s.heap.size + 14))) rfl rfl rfl (Nat.le_of_ble_eq_true rfl) (fs2 := [.int 0, .ref ((s.heap.size + 0)), .int 0, .ref ((s.heap.size + 1)), .ref ((s.heap.size + 2)), .ref ((s.heap.size + 3)), .ref ((s.heap.size + 4)), .ref ((s.heap.size + 5)), .ref ((s.heap.size + 6)), .ref ((s.heap.size + 7)), .ref ((s.heap.size + 8)), .ref ((s.heap.size + 9)), .ref ((s.heap.size + 10)), .ref ((s.heap.size + 11)), .ref ((s.heap.size + 12)), .int 0, .int 0, .ref ((s.heap.size + 13)), .ref ((s.heap.size + 14)), .null, .null, .null, .null, .null, .null, .null, .null, .int 0, .int 0, .int 0, .null, .null, .int 0, .int 0, .null, .null, .null, .null, .null, .null, .null, .int 0, .int 0, .int 0, .int 0, .int 0]) rfl d_M_init_125 (fun H locs f9 hz oq hS => ?_)
  have hA := arO_put hA hxn oq
  have hN9 : H.size = s.heap.size + 15 := by omega
  refine lv_aload_n hx hb d_M_init_128 rfl (lv_at hl 0 rfl) ?_
  refine lv_sipush (v := nI 240) hx hb d_M_init_129 (by decide) ?_
  have hS0 := hS
  refine s_newa hx hb (hts _ (in_5 (List.mem_of_getElem? (i := 108) rfl) rfl)) (ty := .int) rfl rfl hK hS 4 rfl (a0 := (240, .inl (fun _ => 0))) (fun _ => vp_cell_i _ _ _) (nI_pos (by omega)) (nI_clamp (by omega)) (by show 240 * 4 ≤ 536870912; omega) (by show 12 + 1 + 1 + 1 + 1 ≤ 32; omega) (by show 3765 + 16 + 2400 + 240 + 240 ≤ 7845; omega) d_M_init_132 (fun q4 H hq f_q4 hz o1 hS => ?_)
  have lt_x_q4 : x < q4 := by rw [hq]; exact ob_lt f9
  have f9 := ob_kept f9 (o1 _ lt_x_q4)
  have ge_q4 : s.heap.size ≤ q4 := by rw [hq]; exact hS0.1
  have e_q4 : q4 = s.heap.size + 15 := by omega
  subst e_q4
  have hA := arO_new hA (k := 15) ⟨fun z => absurd z (by decide), fun _ => f_q4⟩ (fun q9 h9 => o1 q9 h9)
  have hN9 : H.size = s.heap.size + 16 := by omega
  refine s_putF (ci := 8) (C := R_M) (T := F_M) (N := 46) hx hb hts i_M t_M t_M_ok n_M hown hK hS (Or.inl rfl) f9 rfl 19 (by decide) (hts _ (in_4 (List.mem_of_getElem? (i := 228) rfl) rfl)) (fun _ h9 => h9) rfl hnm rfl (v := .ref ((s.heap.size + 15))) rfl rfl rfl (Nat.le_of_ble_eq_true rfl) (fs2 := [.int 0, .ref ((s.heap.size + 0)), .int 0, .ref ((s.heap.size + 1)), .ref ((s.heap.size + 2)), .ref ((s.heap.size + 3)), .ref ((s.heap.size + 4)), .ref ((s.heap.size + 5)), .ref ((s.heap.size + 6)), .ref ((s.heap.size + 7)), .ref ((s.heap.size + 8)), .ref ((s.heap.size + 9)), .ref ((s.heap.size + 10)), .ref ((s.heap.size + 11)), .ref ((s.heap.size + 12)), .int 0, .int 0, .ref ((s.heap.size + 13)), .ref ((s.heap.size + 14)), .ref ((s.heap.size + 15)), .null, .null, .null, .null, .null, .null, .null, .int 0, .int 0, .int 0, .null, .null, .int 0, .int 0, .null, .null, .null, .null, .null, .null, .null, .int 0, .int 0, .int 0, .int 0, .int 0]) rfl d_M_init_134 (fun H locs f9 hz oq hS => ?_)
  have hA := arO_put hA hxn oq
  have hN9 : H.size = s.heap.size + 16 := by omega
  exact lp_M_init16 C0 hnm hx9 hxn H locs f9 hA hN9 hS ls hl
set_option maxHeartbeats 4000000 in
set_option maxRecDepth 100000 in
theorem lp_M_init8 {p : Program} {l : Launch} {e : Env} {s : State} {m : MethodId} {args : Array Value} {below : List Frame} {meth : Method} {c : Code} {g : gG} (C0 : cF g p s m args meth c b_M_init 1 "RegistryLogModel" none) (hnm : meth.name = "<init>") {x : Nat} (hx9 : g.2.2.1 ≤ x) (hxn : x < s.heap.size) : ∀ (H : Heap) (locs : List Loc), ob g H x 8 [.int 0, .ref ((s.heap.size + 0)), .int 0, .ref ((s.heap.size + 1)), .ref ((s.heap.size + 2)), .ref ((s.heap.size + 3)), .ref ((s.heap.size + 4)), .ref ((s.heap.size + 5)), .ref ((s.heap.size + 6)), .ref ((s.heap.size + 7)), .null, .null, .null, .null, .null, .int 0, .int 0, .null, .null, .null, .null, .null, .null, .null, .null, .null, .null, .int 0, .int 0, .int 0, .null, .null, .int 0, .int 0, .null, .null, .null, .null, .null, .null, .null, .int 0, .int 0, .int 0, .int 0, .int 0] → arO g H s.heap.size 8 → H.size = s.heap.size + 8 → va_S (fW s.heap (fun q => q = x)) s.heap H locs → ∀ (ls : Array Slot), lv_has ls 1 [(0, .ref x)] → W p l e (rmk 1 32 7845 20) s m args below meth c H locs 8 1944 (MQ below (qW s.heap (fun q => q = x) (fun r H1 => r = none ∧ mW g H1 x (fun j => s.heap.size + oL9.getD j 0) (fun _ => 0) (fun _ _ => 0) (fun _ _ => 0))) args s 32 7845 (fW s.heap (fun q => q = x))) (F0 m 69 ls []) := by
  obtain ⟨hx, hb, hml, hown, hts, hr, hlk, hK⟩ := id C0
  intro H locs f9 hA hN9 hS ls hl
  refine lv_aload_n hx hb d_M_init_69 rfl (lv_at hl 0 rfl) ?_
  refine lv_sipush (v := nI 1200) hx hb d_M_init_70 (by decide) ?_
  have hS0 := hS
  refine s_newa hx hb (hts _ (in_5 (List.mem_of_getElem? (i := 108) rfl) rfl)) (ty := .int) rfl rfl hK hS 4 rfl (a0 := (1200, .inl (fun _ => 0))) (fun _ => vp_cell_i _ _ _) (nI_pos (by omega)) (nI_clamp (by omega)) (by show 1200 * 4 ≤ 536870912; omega) (by show 8 + 1 ≤ 32; omega) (by show 1944 + 1200 ≤ 7845; omega) d_M_init_73 (fun q1 H hq f_q1 hz o1 hS => ?_)
  have lt_x_q1 : x < q1 := by rw [hq]; exact ob_lt f9
  have f9 := ob_kept f9 (o1 _ lt_x_q1)
  have ge_q1 : s.heap.size ≤ q1 := by rw [hq]; exact hS0.1
  have e_q1 : q1 = s.heap.size + 8 := by omega
  subst e_q1
  have hA := arO_new hA (k := 8) ⟨fun z => absurd z (by decide), fun _ => f_q1⟩ (fun q9 h9 => o1 q9 h9)
  have hN9 : H.size = s.heap.size + 9 := by omega
  refine s_putF (ci := 8) (C := R_M) (T := F_M) (N := 46) hx hb hts i_M t_M t_M_ok n_M hown hK hS (Or.inl rfl) f9 rfl 10 (by decide) (hts _ (in_4 (List.mem_of_getElem? (i := 219) rfl) rfl)) (fun _ h9 => h9) rfl hnm rfl (v := .ref ((s.heap.size + 8))) rfl rfl rfl (Nat.le_of_ble_eq_true rfl) (fs2 := [.int 0, .ref ((s.heap.size + 0)), .int 0, .ref ((s.heap.size + 1)), .ref ((s.heap.size + 2)), .ref ((s.heap.size + 3)), .ref ((s.heap.size + 4)), .ref ((s.heap.size + 5)), .ref ((s.heap.size + 6)), .ref ((s.heap.size + 7)), .ref ((s.heap.size + 8)), .null, .null, .null, .null, .int 0, .int 0, .null, .null, .null, .null, .null, .null, .null, .null, .null, .null, .int 0, .int 0, .int 0, .null, .null, .int 0, .int 0, .null, .null, .null, .null, .null, .null, .null, .int 0, .int 0, .int 0, .int 0, .int 0]) rfl d_M_init_75 (fun H locs f9 hz oq hS => ?_)
  have hA := arO_put hA hxn oq
  have hN9 : H.size = s.heap.size + 9 := by omega
  refine lv_aload_n hx hb d_M_init_78 rfl (lv_at hl 0 rfl) ?_
  refine lv_sipush (v := nI 600) hx hb d_M_init_79 (by decide) ?_
  have hS0 := hS
  refine s_newa hx hb (hts _ (in_5 (List.mem_of_getElem? (i := 108) rfl) rfl)) (ty := .int) rfl rfl hK hS 4 rfl (a0 := (600, .inl (fun _ => 0))) (fun _ => vp_cell_i _ _ _) (nI_pos (by omega)) (nI_clamp (by omega)) (by show 600 * 4 ≤ 536870912; omega) (by show 8 + 1 + 1 ≤ 32; omega) (by show 1944 + 1200 + 600 ≤ 7845; omega) d_M_init_82 (fun q2 H hq f_q2 hz o1 hS => ?_)
  have lt_x_q2 : x < q2 := by rw [hq]; exact ob_lt f9
  have f9 := ob_kept f9 (o1 _ lt_x_q2)
  have ge_q2 : s.heap.size ≤ q2 := by rw [hq]; exact hS0.1
  have e_q2 : q2 = s.heap.size + 9 := by omega
  subst e_q2
  have hA := arO_new hA (k := 9) ⟨fun z => absurd z (by decide), fun _ => f_q2⟩ (fun q9 h9 => o1 q9 h9)
  have hN9 : H.size = s.heap.size + 10 := by omega
  refine s_putF (ci := 8) (C := R_M) (T := F_M) (N := 46) hx hb hts i_M t_M t_M_ok n_M hown hK hS (Or.inl rfl) f9 rfl 11 (by decide) (hts _ (in_4 (List.mem_of_getElem? (i := 220) rfl) rfl)) (fun _ h9 => h9) rfl hnm rfl (v := .ref ((s.heap.size + 9))) rfl rfl rfl (Nat.le_of_ble_eq_true rfl) (fs2 := [.int 0, .ref ((s.heap.size + 0)), .int 0, .ref ((s.heap.size + 1)), .ref ((s.heap.size + 2)), .ref ((s.heap.size + 3)), .ref ((s.heap.size + 4)), .ref ((s.heap.size + 5)), .ref ((s.heap.size + 6)), .ref ((s.heap.size + 7)), .ref ((s.heap.size + 8)), .ref ((s.heap.size + 9)), .null, .null, .null, .int 0, .int 0, .null, .null, .null, .null, .null, .null, .null, .null, .null, .null, .int 0, .int 0, .int 0, .null, .null, .int 0, .int 0, .null, .null, .null, .null, .null, .null, .null, .int 0, .int 0, .int 0, .int 0, .int 0]) rfl d_M_init_84 (fun H locs f9 hz oq hS => ?_)
  have hA := arO_put hA hxn oq
  have hN9 : H.size = s.heap.size + 10 := by omega
  refine lv_aload_n hx hb d_M_init_87 rfl (lv_at hl 0 rfl) ?_
  refine lv_iconst (v := nI 5) hx hb d_M_init_88 (by decide) ?_
  have hS0 := hS
  refine s_newa hx hb (hts _ (in_5 (List.mem_of_getElem? (i := 108) rfl) rfl)) (ty := .int) rfl rfl hK hS 4 rfl (a0 := (5, .inl (fun _ => 0))) (fun _ => vp_cell_i _ _ _) (nI_pos (by omega)) (nI_clamp (by omega)) (by show 5 * 4 ≤ 536870912; omega) (by show 8 + 1 + 1 + 1 ≤ 32; omega) (by show 1944 + 1200 + 600 + 5 ≤ 7845; omega) d_M_init_89 (fun q3 H hq f_q3 hz o1 hS => ?_)
  have lt_x_q3 : x < q3 := by rw [hq]; exact ob_lt f9
  have f9 := ob_kept f9 (o1 _ lt_x_q3)
  have ge_q3 : s.heap.size ≤ q3 := by rw [hq]; exact hS0.1
  have e_q3 : q3 = s.heap.size + 10 := by omega
  subst e_q3
  have hA := arO_new hA (k := 10) ⟨fun z => absurd z (by decide), fun _ => f_q3⟩ (fun q9 h9 => o1 q9 h9)
  have hN9 : H.size = s.heap.size + 11 := by omega
  refine s_putF (ci := 8) (C := R_M) (T := F_M) (N := 46) hx hb hts i_M t_M t_M_ok n_M hown hK hS (Or.inl rfl) f9 rfl 12 (by decide) (hts _ (in_4 (List.mem_of_getElem? (i := 221) rfl) rfl)) (fun _ h9 => h9) rfl hnm rfl (v := .ref ((s.heap.size + 10))) rfl rfl rfl (Nat.le_of_ble_eq_true rfl) (fs2 := [.int 0, .ref ((s.heap.size + 0)), .int 0, .ref ((s.heap.size + 1)), .ref ((s.heap.size + 2)), .ref ((s.heap.size + 3)), .ref ((s.heap.size + 4)), .ref ((s.heap.size + 5)), .ref ((s.heap.size + 6)), .ref ((s.heap.size + 7)), .ref ((s.heap.size + 8)), .ref ((s.heap.size + 9)), .ref ((s.heap.size + 10)), .null, .null, .int 0, .int 0, .null, .null, .null, .null, .null, .null, .null, .null, .null, .null, .int 0, .int 0, .int 0, .null, .null, .int 0, .int 0, .null, .null, .null, .null, .null, .null, .null, .int 0, .int 0, .int 0, .int 0, .int 0]) rfl d_M_init_91 (fun H locs f9 hz oq hS => ?_)
  have hA := arO_put hA hxn oq
  have hN9 : H.size = s.heap.size + 11 := by omega
  refine lv_aload_n hx hb d_M_init_94 rfl (lv_at hl 0 rfl) ?_
  refine lv_bipush (v := nI 16) hx hb d_M_init_95 (by decide) ?_
  have hS0 := hS
  refine s_newa hx hb (hts _ (in_3 (List.mem_of_getElem? (i := 8) rfl) rfl)) (ty := .long) rfl rfl hK hS 1 rfl (a0 := (16, .inr (.inl (fun _ => 0)))) (fun _ => vp_cell_l _ _ _) (nI_pos (by omega)) (nI_clamp (by omega)) (by show 16 * 8 ≤ 536870912; omega) (by show 8 + 1 + 1 + 1 + 1 ≤ 32; omega) (by show 1944 + 1200 + 600 + 5 + 16 ≤ 7845; omega) d_M_init_97 (fun q4 H hq f_q4 hz o1 hS => ?_)
  have lt_x_q4 : x < q4 := by rw [hq]; exact ob_lt f9
  have f9 := ob_kept f9 (o1 _ lt_x_q4)
  have ge_q4 : s.heap.size ≤ q4 := by rw [hq]; exact hS0.1
  have e_q4 : q4 = s.heap.size + 11 := by omega
  subst e_q4
  have hA := arO_new hA (k := 11) ⟨fun _ => f_q4, fun z => absurd rfl z⟩ (fun q9 h9 => o1 q9 h9)
  have hN9 : H.size = s.heap.size + 12 := by omega
  refine s_putF (ci := 8) (C := R_M) (T := F_M) (N := 46) hx hb hts i_M t_M t_M_ok n_M hown hK hS (Or.inl rfl) f9 rfl 13 (by decide) (hts _ (in_4 (List.mem_of_getElem? (i := 222) rfl) rfl)) (fun _ h9 => h9) rfl hnm rfl (v := .ref ((s.heap.size + 11))) rfl rfl rfl (Nat.le_of_ble_eq_true rfl) (fs2 := [.int 0, .ref ((s.heap.size + 0)), .int 0, .ref ((s.heap.size + 1)), .ref ((s.heap.size + 2)), .ref ((s.heap.size + 3)), .ref ((s.heap.size + 4)), .ref ((s.heap.size + 5)), .ref ((s.heap.size + 6)), .ref ((s.heap.size + 7)), .ref ((s.heap.size + 8)), .ref ((s.heap.size + 9)), .ref ((s.heap.size + 10)), .ref ((s.heap.size + 11)), .null, .int 0, .int 0, .null, .null, .null, .null, .null, .null, .null, .null, .null, .null, .int 0, .int 0, .int 0, .null, .null, .int 0, .int 0, .null, .null, .null, .null, .null, .null, .null, .int 0, .int 0, .int 0, .int 0, .int 0]) rfl d_M_init_99 (fun H locs f9 hz oq hS => ?_)
  have hA := arO_put hA hxn oq
  have hN9 : H.size = s.heap.size + 12 := by omega
  exact lp_M_init12 C0 hnm hx9 hxn H locs f9 hA hN9 hS ls hl
set_option maxHeartbeats 4000000 in
set_option maxRecDepth 100000 in
theorem lp_M_init4 {p : Program} {l : Launch} {e : Env} {s : State} {m : MethodId} {args : Array Value} {below : List Frame} {meth : Method} {c : Code} {g : gG} (C0 : cF g p s m args meth c b_M_init 1 "RegistryLogModel" none) (hnm : meth.name = "<init>") {x : Nat} (hx9 : g.2.2.1 ≤ x) (hxn : x < s.heap.size) : ∀ (H : Heap) (locs : List Loc), ob g H x 8 [.int 0, .ref ((s.heap.size + 0)), .int 0, .ref ((s.heap.size + 1)), .ref ((s.heap.size + 2)), .ref ((s.heap.size + 3)), .null, .null, .null, .null, .null, .null, .null, .null, .null, .int 0, .int 0, .null, .null, .null, .null, .null, .null, .null, .null, .null, .null, .int 0, .int 0, .int 0, .null, .null, .int 0, .int 0, .null, .null, .null, .null, .null, .null, .null, .int 0, .int 0, .int 0, .int 0, .int 0] → arO g H s.heap.size 4 → H.size = s.heap.size + 4 → va_S (fW s.heap (fun q => q = x)) s.heap H locs → ∀ (ls : Array Slot), lv_has ls 1 [(0, .ref x)] → W p l e (rmk 1 32 7845 20) s m args below meth c H locs 4 384 (MQ below (qW s.heap (fun q => q = x) (fun r H1 => r = none ∧ mW g H1 x (fun j => s.heap.size + oL9.getD j 0) (fun _ => 0) (fun _ _ => 0) (fun _ _ => 0))) args s 32 7845 (fW s.heap (fun q => q = x))) (F0 m 36 ls []) := by
  obtain ⟨hx, hb, hml, hown, hts, hr, hlk, hK⟩ := id C0
  intro H locs f9 hA hN9 hS ls hl
  refine lv_aload_n hx hb d_M_init_36 rfl (lv_at hl 0 rfl) ?_
  refine lv_bipush (v := nI 120) hx hb d_M_init_37 (by decide) ?_
  have hS0 := hS
  refine s_newa hx hb (hts _ (in_5 (List.mem_of_getElem? (i := 108) rfl) rfl)) (ty := .int) rfl rfl hK hS 4 rfl (a0 := (120, .inl (fun _ => 0))) (fun _ => vp_cell_i _ _ _) (nI_pos (by omega)) (nI_clamp (by omega)) (by show 120 * 4 ≤ 536870912; omega) (by show 4 + 1 ≤ 32; omega) (by show 384 + 120 ≤ 7845; omega) d_M_init_39 (fun q1 H hq f_q1 hz o1 hS => ?_)
  have lt_x_q1 : x < q1 := by rw [hq]; exact ob_lt f9
  have f9 := ob_kept f9 (o1 _ lt_x_q1)
  have ge_q1 : s.heap.size ≤ q1 := by rw [hq]; exact hS0.1
  have e_q1 : q1 = s.heap.size + 4 := by omega
  subst e_q1
  have hA := arO_new hA (k := 4) ⟨fun z => absurd z (by decide), fun _ => f_q1⟩ (fun q9 h9 => o1 q9 h9)
  have hN9 : H.size = s.heap.size + 5 := by omega
  refine s_putF (ci := 8) (C := R_M) (T := F_M) (N := 46) hx hb hts i_M t_M t_M_ok n_M hown hK hS (Or.inl rfl) f9 rfl 6 (by decide) (hts _ (in_4 (List.mem_of_getElem? (i := 215) rfl) rfl)) (fun _ h9 => h9) rfl hnm rfl (v := .ref ((s.heap.size + 4))) rfl rfl rfl (Nat.le_of_ble_eq_true rfl) (fs2 := [.int 0, .ref ((s.heap.size + 0)), .int 0, .ref ((s.heap.size + 1)), .ref ((s.heap.size + 2)), .ref ((s.heap.size + 3)), .ref ((s.heap.size + 4)), .null, .null, .null, .null, .null, .null, .null, .null, .int 0, .int 0, .null, .null, .null, .null, .null, .null, .null, .null, .null, .null, .int 0, .int 0, .int 0, .null, .null, .int 0, .int 0, .null, .null, .null, .null, .null, .null, .null, .int 0, .int 0, .int 0, .int 0, .int 0]) rfl d_M_init_41 (fun H locs f9 hz oq hS => ?_)
  have hA := arO_put hA hxn oq
  have hN9 : H.size = s.heap.size + 5 := by omega
  refine lv_aload_n hx hb d_M_init_44 rfl (lv_at hl 0 rfl) ?_
  refine lv_bipush (v := nI 120) hx hb d_M_init_45 (by decide) ?_
  have hS0 := hS
  refine s_newa hx hb (hts _ (in_5 (List.mem_of_getElem? (i := 108) rfl) rfl)) (ty := .int) rfl rfl hK hS 4 rfl (a0 := (120, .inl (fun _ => 0))) (fun _ => vp_cell_i _ _ _) (nI_pos (by omega)) (nI_clamp (by omega)) (by show 120 * 4 ≤ 536870912; omega) (by show 4 + 1 + 1 ≤ 32; omega) (by show 384 + 120 + 120 ≤ 7845; omega) d_M_init_47 (fun q2 H hq f_q2 hz o1 hS => ?_)
  have lt_x_q2 : x < q2 := by rw [hq]; exact ob_lt f9
  have f9 := ob_kept f9 (o1 _ lt_x_q2)
  have ge_q2 : s.heap.size ≤ q2 := by rw [hq]; exact hS0.1
  have e_q2 : q2 = s.heap.size + 5 := by omega
  subst e_q2
  have hA := arO_new hA (k := 5) ⟨fun z => absurd z (by decide), fun _ => f_q2⟩ (fun q9 h9 => o1 q9 h9)
  have hN9 : H.size = s.heap.size + 6 := by omega
  refine s_putF (ci := 8) (C := R_M) (T := F_M) (N := 46) hx hb hts i_M t_M t_M_ok n_M hown hK hS (Or.inl rfl) f9 rfl 7 (by decide) (hts _ (in_4 (List.mem_of_getElem? (i := 216) rfl) rfl)) (fun _ h9 => h9) rfl hnm rfl (v := .ref ((s.heap.size + 5))) rfl rfl rfl (Nat.le_of_ble_eq_true rfl) (fs2 := [.int 0, .ref ((s.heap.size + 0)), .int 0, .ref ((s.heap.size + 1)), .ref ((s.heap.size + 2)), .ref ((s.heap.size + 3)), .ref ((s.heap.size + 4)), .ref ((s.heap.size + 5)), .null, .null, .null, .null, .null, .null, .null, .int 0, .int 0, .null, .null, .null, .null, .null, .null, .null, .null, .null, .null, .int 0, .int 0, .int 0, .null, .null, .int 0, .int 0, .null, .null, .null, .null, .null, .null, .null, .int 0, .int 0, .int 0, .int 0, .int 0]) rfl d_M_init_49 (fun H locs f9 hz oq hS => ?_)
  have hA := arO_put hA hxn oq
  have hN9 : H.size = s.heap.size + 6 := by omega
  refine lv_aload_n hx hb d_M_init_52 rfl (lv_at hl 0 rfl) ?_
  refine lv_bipush (v := nI 120) hx hb d_M_init_53 (by decide) ?_
  have hS0 := hS
  refine s_newa hx hb (hts _ (in_5 (List.mem_of_getElem? (i := 108) rfl) rfl)) (ty := .int) rfl rfl hK hS 4 rfl (a0 := (120, .inl (fun _ => 0))) (fun _ => vp_cell_i _ _ _) (nI_pos (by omega)) (nI_clamp (by omega)) (by show 120 * 4 ≤ 536870912; omega) (by show 4 + 1 + 1 + 1 ≤ 32; omega) (by show 384 + 120 + 120 + 120 ≤ 7845; omega) d_M_init_55 (fun q3 H hq f_q3 hz o1 hS => ?_)
  have lt_x_q3 : x < q3 := by rw [hq]; exact ob_lt f9
  have f9 := ob_kept f9 (o1 _ lt_x_q3)
  have ge_q3 : s.heap.size ≤ q3 := by rw [hq]; exact hS0.1
  have e_q3 : q3 = s.heap.size + 6 := by omega
  subst e_q3
  have hA := arO_new hA (k := 6) ⟨fun z => absurd z (by decide), fun _ => f_q3⟩ (fun q9 h9 => o1 q9 h9)
  have hN9 : H.size = s.heap.size + 7 := by omega
  refine s_putF (ci := 8) (C := R_M) (T := F_M) (N := 46) hx hb hts i_M t_M t_M_ok n_M hown hK hS (Or.inl rfl) f9 rfl 8 (by decide) (hts _ (in_4 (List.mem_of_getElem? (i := 217) rfl) rfl)) (fun _ h9 => h9) rfl hnm rfl (v := .ref ((s.heap.size + 6))) rfl rfl rfl (Nat.le_of_ble_eq_true rfl) (fs2 := [.int 0, .ref ((s.heap.size + 0)), .int 0, .ref ((s.heap.size + 1)), .ref ((s.heap.size + 2)), .ref ((s.heap.size + 3)), .ref ((s.heap.size + 4)), .ref ((s.heap.size + 5)), .ref ((s.heap.size + 6)), .null, .null, .null, .null, .null, .null, .int 0, .int 0, .null, .null, .null, .null, .null, .null, .null, .null, .null, .null, .int 0, .int 0, .int 0, .null, .null, .int 0, .int 0, .null, .null, .null, .null, .null, .null, .null, .int 0, .int 0, .int 0, .int 0, .int 0]) rfl d_M_init_57 (fun H locs f9 hz oq hS => ?_)
  have hA := arO_put hA hxn oq
  have hN9 : H.size = s.heap.size + 7 := by omega
  refine lv_aload_n hx hb d_M_init_60 rfl (lv_at hl 0 rfl) ?_
  refine lv_sipush (v := nI 1200) hx hb d_M_init_61 (by decide) ?_
  have hS0 := hS
  refine s_newa hx hb (hts _ (in_5 (List.mem_of_getElem? (i := 108) rfl) rfl)) (ty := .int) rfl rfl hK hS 4 rfl (a0 := (1200, .inl (fun _ => 0))) (fun _ => vp_cell_i _ _ _) (nI_pos (by omega)) (nI_clamp (by omega)) (by show 1200 * 4 ≤ 536870912; omega) (by show 4 + 1 + 1 + 1 + 1 ≤ 32; omega) (by show 384 + 120 + 120 + 120 + 1200 ≤ 7845; omega) d_M_init_64 (fun q4 H hq f_q4 hz o1 hS => ?_)
  have lt_x_q4 : x < q4 := by rw [hq]; exact ob_lt f9
  have f9 := ob_kept f9 (o1 _ lt_x_q4)
  have ge_q4 : s.heap.size ≤ q4 := by rw [hq]; exact hS0.1
  have e_q4 : q4 = s.heap.size + 7 := by omega
  subst e_q4
  have hA := arO_new hA (k := 7) ⟨fun z => absurd z (by decide), fun _ => f_q4⟩ (fun q9 h9 => o1 q9 h9)
  have hN9 : H.size = s.heap.size + 8 := by omega
  refine s_putF (ci := 8) (C := R_M) (T := F_M) (N := 46) hx hb hts i_M t_M t_M_ok n_M hown hK hS (Or.inl rfl) f9 rfl 9 (by decide) (hts _ (in_4 (List.mem_of_getElem? (i := 218) rfl) rfl)) (fun _ h9 => h9) rfl hnm rfl (v := .ref ((s.heap.size + 7))) rfl rfl rfl (Nat.le_of_ble_eq_true rfl) (fs2 := [.int 0, .ref ((s.heap.size + 0)), .int 0, .ref ((s.heap.size + 1)), .ref ((s.heap.size + 2)), .ref ((s.heap.size + 3)), .ref ((s.heap.size + 4)), .ref ((s.heap.size + 5)), .ref ((s.heap.size + 6)), .ref ((s.heap.size + 7)), .null, .null, .null, .null, .null, .int 0, .int 0, .null, .null, .null, .null, .null, .null, .null, .null, .null, .null, .int 0, .int 0, .int 0, .null, .null, .int 0, .int 0, .null, .null, .null, .null, .null, .null, .null, .int 0, .int 0, .int 0, .int 0, .int 0]) rfl d_M_init_66 (fun H locs f9 hz oq hS => ?_)
  have hA := arO_put hA hxn oq
  have hN9 : H.size = s.heap.size + 8 := by omega
  exact lp_M_init8 C0 hnm hx9 hxn H locs f9 hA hN9 hS ls hl
set_option maxHeartbeats 4000000 in
set_option maxRecDepth 100000 in
theorem lp_M_init0 {p : Program} {l : Launch} {e : Env} {s : State} {m : MethodId} {args : Array Value} {below : List Frame} {meth : Method} {c : Code} {g : gG} (C0 : cF g p s m args meth c b_M_init 1 "RegistryLogModel" none) (hnm : meth.name = "<init>") {x : Nat} (hx9 : g.2.2.1 ≤ x) (hxn : x < s.heap.size) : ∀ (H : Heap) (locs : List Loc), ob g H x 8 [.int 0, .null, .int 0, .null, .null, .null, .null, .null, .null, .null, .null, .null, .null, .null, .null, .int 0, .int 0, .null, .null, .null, .null, .null, .null, .null, .null, .null, .null, .int 0, .int 0, .int 0, .null, .null, .int 0, .int 0, .null, .null, .null, .null, .null, .null, .null, .int 0, .int 0, .int 0, .int 0, .int 0] → arO g H s.heap.size 0 → H.size = s.heap.size + 0 → va_S (fW s.heap (fun q => q = x)) s.heap H locs → ∀ (ls : Array Slot), lv_has ls 1 [(0, .ref x)] → W p l e (rmk 1 32 7845 20) s m args below meth c H locs 0 0 (MQ below (qW s.heap (fun q => q = x) (fun r H1 => r = none ∧ mW g H1 x (fun j => s.heap.size + oL9.getD j 0) (fun _ => 0) (fun _ _ => 0) (fun _ _ => 0))) args s 32 7845 (fW s.heap (fun q => q = x))) (F0 m 4 ls []) := by
  obtain ⟨hx, hb, hml, hown, hts, hr, hlk, hK⟩ := id C0
  intro H locs f9 hA hN9 hS ls hl
  refine lv_aload_n hx hb d_M_init_4 rfl (lv_at hl 0 rfl) ?_
  refine lv_bipush (v := nI 24) hx hb d_M_init_5 (by decide) ?_
  have hS0 := hS
  refine s_newa hx hb (hts _ (in_5 (List.mem_of_getElem? (i := 108) rfl) rfl)) (ty := .int) rfl rfl hK hS 4 rfl (a0 := (24, .inl (fun _ => 0))) (fun _ => vp_cell_i _ _ _) (nI_pos (by omega)) (nI_clamp (by omega)) (by show 24 * 4 ≤ 536870912; omega) (by show 0 + 1 ≤ 32; omega) (by show 0 + 24 ≤ 7845; omega) d_M_init_7 (fun q1 H hq f_q1 hz o1 hS => ?_)
  have lt_x_q1 : x < q1 := by rw [hq]; exact ob_lt f9
  have f9 := ob_kept f9 (o1 _ lt_x_q1)
  have ge_q1 : s.heap.size ≤ q1 := by rw [hq]; exact hS0.1
  have e_q1 : q1 = s.heap.size + 0 := by omega
  subst e_q1
  have hA := arO_new hA (k := 0) ⟨fun z => absurd z (by decide), fun _ => f_q1⟩ (fun q9 h9 => o1 q9 h9)
  have hN9 : H.size = s.heap.size + 1 := by omega
  refine s_putF (ci := 8) (C := R_M) (T := F_M) (N := 46) hx hb hts i_M t_M t_M_ok n_M hown hK hS (Or.inl rfl) f9 rfl 1 (by decide) (hts _ (in_4 (List.mem_of_getElem? (i := 210) rfl) rfl)) (fun _ h9 => h9) rfl hnm rfl (v := .ref ((s.heap.size + 0))) rfl rfl rfl (Nat.le_of_ble_eq_true rfl) (fs2 := [.int 0, .ref ((s.heap.size + 0)), .int 0, .null, .null, .null, .null, .null, .null, .null, .null, .null, .null, .null, .null, .int 0, .int 0, .null, .null, .null, .null, .null, .null, .null, .null, .null, .null, .int 0, .int 0, .int 0, .null, .null, .int 0, .int 0, .null, .null, .null, .null, .null, .null, .null, .int 0, .int 0, .int 0, .int 0, .int 0]) rfl d_M_init_9 (fun H locs f9 hz oq hS => ?_)
  have hA := arO_put hA hxn oq
  have hN9 : H.size = s.heap.size + 1 := by omega
  refine lv_aload_n hx hb d_M_init_12 rfl (lv_at hl 0 rfl) ?_
  refine lv_bipush (v := nI 120) hx hb d_M_init_13 (by decide) ?_
  have hS0 := hS
  refine s_newa hx hb (hts _ (in_5 (List.mem_of_getElem? (i := 108) rfl) rfl)) (ty := .int) rfl rfl hK hS 4 rfl (a0 := (120, .inl (fun _ => 0))) (fun _ => vp_cell_i _ _ _) (nI_pos (by omega)) (nI_clamp (by omega)) (by show 120 * 4 ≤ 536870912; omega) (by show 0 + 1 + 1 ≤ 32; omega) (by show 0 + 24 + 120 ≤ 7845; omega) d_M_init_15 (fun q2 H hq f_q2 hz o1 hS => ?_)
  have lt_x_q2 : x < q2 := by rw [hq]; exact ob_lt f9
  have f9 := ob_kept f9 (o1 _ lt_x_q2)
  have ge_q2 : s.heap.size ≤ q2 := by rw [hq]; exact hS0.1
  have e_q2 : q2 = s.heap.size + 1 := by omega
  subst e_q2
  have hA := arO_new hA (k := 1) ⟨fun z => absurd z (by decide), fun _ => f_q2⟩ (fun q9 h9 => o1 q9 h9)
  have hN9 : H.size = s.heap.size + 2 := by omega
  refine s_putF (ci := 8) (C := R_M) (T := F_M) (N := 46) hx hb hts i_M t_M t_M_ok n_M hown hK hS (Or.inl rfl) f9 rfl 3 (by decide) (hts _ (in_4 (List.mem_of_getElem? (i := 212) rfl) rfl)) (fun _ h9 => h9) rfl hnm rfl (v := .ref ((s.heap.size + 1))) rfl rfl rfl (Nat.le_of_ble_eq_true rfl) (fs2 := [.int 0, .ref ((s.heap.size + 0)), .int 0, .ref ((s.heap.size + 1)), .null, .null, .null, .null, .null, .null, .null, .null, .null, .null, .null, .int 0, .int 0, .null, .null, .null, .null, .null, .null, .null, .null, .null, .null, .int 0, .int 0, .int 0, .null, .null, .int 0, .int 0, .null, .null, .null, .null, .null, .null, .null, .int 0, .int 0, .int 0, .int 0, .int 0]) rfl d_M_init_17 (fun H locs f9 hz oq hS => ?_)
  have hA := arO_put hA hxn oq
  have hN9 : H.size = s.heap.size + 2 := by omega
  refine lv_aload_n hx hb d_M_init_20 rfl (lv_at hl 0 rfl) ?_
  refine lv_bipush (v := nI 120) hx hb d_M_init_21 (by decide) ?_
  have hS0 := hS
  refine s_newa hx hb (hts _ (in_5 (List.mem_of_getElem? (i := 108) rfl) rfl)) (ty := .int) rfl rfl hK hS 4 rfl (a0 := (120, .inl (fun _ => 0))) (fun _ => vp_cell_i _ _ _) (nI_pos (by omega)) (nI_clamp (by omega)) (by show 120 * 4 ≤ 536870912; omega) (by show 0 + 1 + 1 + 1 ≤ 32; omega) (by show 0 + 24 + 120 + 120 ≤ 7845; omega) d_M_init_23 (fun q3 H hq f_q3 hz o1 hS => ?_)
  have lt_x_q3 : x < q3 := by rw [hq]; exact ob_lt f9
  have f9 := ob_kept f9 (o1 _ lt_x_q3)
  have ge_q3 : s.heap.size ≤ q3 := by rw [hq]; exact hS0.1
  have e_q3 : q3 = s.heap.size + 2 := by omega
  subst e_q3
  have hA := arO_new hA (k := 2) ⟨fun z => absurd z (by decide), fun _ => f_q3⟩ (fun q9 h9 => o1 q9 h9)
  have hN9 : H.size = s.heap.size + 3 := by omega
  refine s_putF (ci := 8) (C := R_M) (T := F_M) (N := 46) hx hb hts i_M t_M t_M_ok n_M hown hK hS (Or.inl rfl) f9 rfl 4 (by decide) (hts _ (in_4 (List.mem_of_getElem? (i := 213) rfl) rfl)) (fun _ h9 => h9) rfl hnm rfl (v := .ref ((s.heap.size + 2))) rfl rfl rfl (Nat.le_of_ble_eq_true rfl) (fs2 := [.int 0, .ref ((s.heap.size + 0)), .int 0, .ref ((s.heap.size + 1)), .ref ((s.heap.size + 2)), .null, .null, .null, .null, .null, .null, .null, .null, .null, .null, .int 0, .int 0, .null, .null, .null, .null, .null, .null, .null, .null, .null, .null, .int 0, .int 0, .int 0, .null, .null, .int 0, .int 0, .null, .null, .null, .null, .null, .null, .null, .int 0, .int 0, .int 0, .int 0, .int 0]) rfl d_M_init_25 (fun H locs f9 hz oq hS => ?_)
  have hA := arO_put hA hxn oq
  have hN9 : H.size = s.heap.size + 3 := by omega
  refine lv_aload_n hx hb d_M_init_28 rfl (lv_at hl 0 rfl) ?_
  refine lv_bipush (v := nI 120) hx hb d_M_init_29 (by decide) ?_
  have hS0 := hS
  refine s_newa hx hb (hts _ (in_5 (List.mem_of_getElem? (i := 108) rfl) rfl)) (ty := .int) rfl rfl hK hS 4 rfl (a0 := (120, .inl (fun _ => 0))) (fun _ => vp_cell_i _ _ _) (nI_pos (by omega)) (nI_clamp (by omega)) (by show 120 * 4 ≤ 536870912; omega) (by show 0 + 1 + 1 + 1 + 1 ≤ 32; omega) (by show 0 + 24 + 120 + 120 + 120 ≤ 7845; omega) d_M_init_31 (fun q4 H hq f_q4 hz o1 hS => ?_)
  have lt_x_q4 : x < q4 := by rw [hq]; exact ob_lt f9
  have f9 := ob_kept f9 (o1 _ lt_x_q4)
  have ge_q4 : s.heap.size ≤ q4 := by rw [hq]; exact hS0.1
  have e_q4 : q4 = s.heap.size + 3 := by omega
  subst e_q4
  have hA := arO_new hA (k := 3) ⟨fun z => absurd z (by decide), fun _ => f_q4⟩ (fun q9 h9 => o1 q9 h9)
  have hN9 : H.size = s.heap.size + 4 := by omega
  refine s_putF (ci := 8) (C := R_M) (T := F_M) (N := 46) hx hb hts i_M t_M t_M_ok n_M hown hK hS (Or.inl rfl) f9 rfl 5 (by decide) (hts _ (in_4 (List.mem_of_getElem? (i := 214) rfl) rfl)) (fun _ h9 => h9) rfl hnm rfl (v := .ref ((s.heap.size + 3))) rfl rfl rfl (Nat.le_of_ble_eq_true rfl) (fs2 := [.int 0, .ref ((s.heap.size + 0)), .int 0, .ref ((s.heap.size + 1)), .ref ((s.heap.size + 2)), .ref ((s.heap.size + 3)), .null, .null, .null, .null, .null, .null, .null, .null, .null, .int 0, .int 0, .null, .null, .null, .null, .null, .null, .null, .null, .null, .null, .int 0, .int 0, .int 0, .null, .null, .int 0, .int 0, .null, .null, .null, .null, .null, .null, .null, .int 0, .int 0, .int 0, .int 0, .int 0]) rfl d_M_init_33 (fun H locs f9 hz oq hS => ?_)
  have hA := arO_put hA hxn oq
  have hN9 : H.size = s.heap.size + 4 := by omega
  exact lp_M_init4 C0 hnm hx9 hxn H locs f9 hA hN9 hS ls hl
set_option maxHeartbeats 4000000 in
set_option maxRecDepth 100000 in
/-- RegistryLogModel.<init> -/
theorem c_M_init (l : Launch) (g : gG) (H : Heap) (x : Nat) (hx9 : g.2.2.1 ≤ x) (f9 : ob g H x 8 [.int 0, .null, .int 0, .null, .null, .null, .null, .null, .null, .null, .null, .null, .null, .null, .null, .int 0, .int 0, .null, .null, .null, .null, .null, .null, .null, .null, .null, .null, .int 0, .int 0, .int 0, .null, .null, .int 0, .int 0, .null, .null, .null, .null, .null, .null, .null, .int 0, .int 0, .int 0, .int 0, .int 0]) : Met l y_M_init (wC y_M_init b_M_init 1 none) (rmk 1 32 7845 20) (pC g H [.ref x]) (qW H (fun q => q = x) (fun r H1 => r = none ∧ mW g H1 x (fun j => H.size + oL9.getD j 0) (fun _ => 0) (fun _ _ => 0) (fun _ _ => 0))) 32 7845 (fW H (fun q => q = x)) := by
  refine mB (by decide) (Nat.le_of_ble_eq_true rfl) ?_
  intro p e s m below meth c ls C0 hH hZ hnm hl
  have C0 : cF g p s m _ meth c b_M_init 1 "RegistryLogModel" none := C0
  obtain ⟨hx, hb, hml, hown, hts, hr, hlk, hK⟩ := id C0
  subst hH
  have hl : lv_has ls 1 [(0, .ref x)] := hl
  have hS : va_S (fW s.heap (fun q => q = x)) s.heap s.heap [] := hS_rf
  have hxl := ob_lt f9
  refine lv_aload_n hx hb d_M_init_0 rfl (lv_at hl 0 rfl) ?_
  refine W.objInit hx hb hown (hts (.methodLink "RegistryLogModel" 1 Lib.objectInit) (in_4 (List.mem_of_getElem? (i := 208) rfl) rfl)) (hts (.instanceMethod Lib.objectInit) (in_1 (List.mem_of_getElem? (i := 32) rfl) rfl)) (hts (.code Lib.objectInit ⟨#[0xb1]⟩ 1 none) (in_1 (List.mem_of_getElem? (i := 33) rfl) rfl)) rfl (by rw [hml]; exact hl.1) rfl d_M_init_1 (Nat.le_of_ble_eq_true rfl) (Nat.le_of_ble_eq_true rfl) ?_
  refine W.eq (g2 := F0 m 4 ls []) rfl ?_
  exact lp_M_init0 C0 hnm hx9 hxl s.heap [] f9 (fun i hi => absurd hi (Nat.not_lt_zero _)) rfl hS ls hl
