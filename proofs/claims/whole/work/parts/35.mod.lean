abbrev rm_X8_within : Room := { frames := 0, cells := 0, slots := 0, locals := 0 }
theorem dvX8_within : zk_dv yX8_within RX8 3 := by decide +kernel
set_option maxRecDepth 100000 in
set_option maxHeartbeats 1500000 in
theorem ct_X8_within (l : Launch) (D : va_G) (g : Nat → ClassId) (τ : Nat → Nat) (v : Int64) (x : Int64) (y : Int64)  : zk_MI l D g τ yX8_within wmX8_within rm_X8_within [.long v, .long x, .long y] [] (fun (r : Int32) (_ : Unit) => r = zk_b (zm_in v x y)) (fun (_ : Unit) => []) := by
  refine zk_of (av := [.long v, .long x, .long y]) (W0 := []) (y := yX8_within) (wd := wmX8_within) (Qc := fun A => va_Qi (fun (r : Int32) (_ : Unit) => r = zk_b (zm_in v x y)) (zk_B D g A (fun (_ : Unit) => [])) A) (cc := cX8_within) (maxL := 6) (ret := (some .boolean)) (own := RX8) (by decide) rfl rfl (Nat.le_of_ble_eq_true rfl) ?_
  intro pP eE sS mM args below meth cC aA ls qQ Z hR_ hlk hnm hK hT hA hQ G hl
  refine lv_lload_n Z.1 Z.2.1 dX8_within_0 rfl (lv_at hl 0 rfl) ?_
  refine lv_lload_n Z.1 Z.2.1 dX8_within_1 rfl (lv_at hl 1 rfl) ?_
  refine zk_lcmp Z dX8_within_2 (z := lg_cmp v x) rfl ?_
  refine lv_if_lt (tgt := 17) Z.1 Z.2.1 dX8_within_3 (by decide) (fun c3 => ?_) (fun c3 => ?_)
  · have c3 : v < x := zm_lt c3
    refine lv_iconst (v := nI 0) Z.1 Z.2.1 dX8_within_17 (by decide +kernel) ?_
    refine W.eq (g2 := F0 mM 18 ls [.int (zk_b false)]) rfl ?_
    exact zk_retz Z hR_ hlk hK hQ G () (congrArg zk_b (by simp [zm_in, c3])) rfl dX8_within_18
  have c3 : ¬ v < x := zm_nlt c3
  refine lv_lload_n Z.1 Z.2.1 dX8_within_6 rfl (lv_at hl 0 rfl) ?_
  refine lv_lload Z.1 Z.2.1 dX8_within_7 (lv_at hl 2 rfl) ?_
  refine zk_lcmp Z dX8_within_9 (z := lg_cmp v y) rfl ?_
  refine lv_if_gt (tgt := 17) Z.1 Z.2.1 dX8_within_10 (by decide) (fun c10 => ?_) (fun c10 => ?_)
  · have c10 : y < v := zm_gt c10
    refine lv_iconst (v := nI 0) Z.1 Z.2.1 dX8_within_17 (by decide +kernel) ?_
    refine W.eq (g2 := F0 mM 18 ls [.int (zk_b false)]) rfl ?_
    exact zk_retz Z hR_ hlk hK hQ G () (congrArg zk_b (by simp [zm_in, c3, c10])) rfl dX8_within_18
  have c10 : ¬ y < v := zm_ngt c10
  refine lv_iconst (v := nI 1) Z.1 Z.2.1 dX8_within_13 (by decide +kernel) ?_
  refine lv_goto (tgt := 18) Z.1 Z.2.1 dX8_within_14 (by decide) ?_
  refine W.eq (g2 := F0 mM 18 ls [.int (zk_b true)]) rfl ?_
  exact zk_retz Z hR_ hlk hK hQ G () (congrArg zk_b (by simp [zm_in, c3, c10])) rfl dX8_within_18

abbrev rm_X8_isWorld : Room := { frames := 1, cells := 0, slots := 0, locals := 25 }
theorem dvX8_isWorld : zk_dv yX8_isWorld RX8 1 := by decide +kernel
theorem gmX8_isWorld_X8_within : GoodIn wmX8_isWorld (va_wsS RX8 97 yX8_within wmX8_within) := goodIn_app (wa8_w (List.forall_mem_cons.mpr ⟨wa8_41, List.forall_mem_cons.mpr ⟨wa8_42, List.forall_mem_cons.mpr ⟨wa8_43, fun _ h => absurd h List.not_mem_nil⟩⟩⟩)) (wa8_sub wa8_0)
set_option maxRecDepth 100000 in
set_option maxHeartbeats 1500000 in
theorem ct_X8_isWorld (l : Launch) (D : va_G) (g : Nat → ClassId) (τ : Nat → Nat) (b : Nat → Nat) (m : Nat → Int32) (n : Nat) (w : Int32) (hn : n ≤ 7) : zk_MI l D g τ yX8_isWorld wmX8_isWorld rm_X8_isWorld [.ref (b 100), .int w] [(b 100, .inr (8, [.ref (b 0), .ref (b 1), .ref (b 2), .ref (b 3), .int (m 4), .int (m 5), .int (nI n), .int (m 7), .ref (b 8), .int (m 9), .ref (b 10), .int (m 11), .int (m 12), .int (m 13), .int (m 14), .int (m 15), .int (m 16), .ref (b 17), .ref (b 18), .ref (b 19), .ref (b 20), .ref (b 21), .ref (b 22), .ref (b 23), .ref (b 24), .int (m 25), .int (m 26), .int (m 27), .int (m 28), .ref (b 29), .ref (b 30), .int (m 31), .int (m 32), .int (m 33), .int (m 34), .int (m 35), .ref (b 36), .ref (b 37), .int (m 38), .ref (b 39), .ref (b 40), .int (m 41), .int (m 42), .int (m 43), .ref (b 44), .ref (b 45), .ref (b 46), .ref (b 47)]))] (fun (r : Int32) (_ : Unit) => r = zk_b (zb_w n w)) (fun (_ : Unit) => [(b 100, .inr (8, [.ref (b 0), .ref (b 1), .ref (b 2), .ref (b 3), .int (m 4), .int (m 5), .int (nI n), .int (m 7), .ref (b 8), .int (m 9), .ref (b 10), .int (m 11), .int (m 12), .int (m 13), .int (m 14), .int (m 15), .int (m 16), .ref (b 17), .ref (b 18), .ref (b 19), .ref (b 20), .ref (b 21), .ref (b 22), .ref (b 23), .ref (b 24), .int (m 25), .int (m 26), .int (m 27), .int (m 28), .ref (b 29), .ref (b 30), .int (m 31), .int (m 32), .int (m 33), .int (m 34), .int (m 35), .ref (b 36), .ref (b 37), .int (m 38), .ref (b 39), .ref (b 40), .int (m 41), .int (m 42), .int (m 43), .ref (b 44), .ref (b 45), .ref (b 46), .ref (b 47)]))]) := by
  refine zk_of (av := [.ref (b 100), .int w]) (W0 := [(b 100, .inr (8, [.ref (b 0), .ref (b 1), .ref (b 2), .ref (b 3), .int (m 4), .int (m 5), .int (nI n), .int (m 7), .ref (b 8), .int (m 9), .ref (b 10), .int (m 11), .int (m 12), .int (m 13), .int (m 14), .int (m 15), .int (m 16), .ref (b 17), .ref (b 18), .ref (b 19), .ref (b 20), .ref (b 21), .ref (b 22), .ref (b 23), .ref (b 24), .int (m 25), .int (m 26), .int (m 27), .int (m 28), .ref (b 29), .ref (b 30), .int (m 31), .int (m 32), .int (m 33), .int (m 34), .int (m 35), .ref (b 36), .ref (b 37), .int (m 38), .ref (b 39), .ref (b 40), .int (m 41), .int (m 42), .int (m 43), .ref (b 44), .ref (b 45), .ref (b 46), .ref (b 47)]))]) (y := yX8_isWorld) (wd := wmX8_isWorld) (Qc := fun A => va_Qi (fun (r : Int32) (_ : Unit) => r = zk_b (zb_w n w)) (zk_B D g A (fun (_ : Unit) => [(b 100, .inr (8, [.ref (b 0), .ref (b 1), .ref (b 2), .ref (b 3), .int (m 4), .int (m 5), .int (nI n), .int (m 7), .ref (b 8), .int (m 9), .ref (b 10), .int (m 11), .int (m 12), .int (m 13), .int (m 14), .int (m 15), .int (m 16), .ref (b 17), .ref (b 18), .ref (b 19), .ref (b 20), .ref (b 21), .ref (b 22), .ref (b 23), .ref (b 24), .int (m 25), .int (m 26), .int (m 27), .int (m 28), .ref (b 29), .ref (b 30), .int (m 31), .int (m 32), .int (m 33), .int (m 34), .int (m 35), .ref (b 36), .ref (b 37), .int (m 38), .ref (b 39), .ref (b 40), .int (m 41), .int (m 42), .int (m 43), .ref (b 44), .ref (b 45), .ref (b 46), .ref (b 47)]))])) A) (cc := cX8_isWorld) (maxL := 2) (ret := (some .boolean)) (own := RX8) (by decide) rfl rfl (Nat.le_of_ble_eq_true rfl) ?_
  intro pP eE sS mM args below meth cC aA ls qQ Z hR_ hlk hnm hK hT hA hQ G hl
  have hinX8 : ∀ w ∈ u_ws RX8 TX8 48, w ∈ wmX8_isWorld := wa8_in
  refine lv_iload_n Z.1 Z.2.1 dX8_isWorld_0 rfl (lv_at hl 1 rfl) ?_
  refine lv_i2l (v := w.toInt64) Z.1 Z.2.1 dX8_isWorld_1 rfl ?_
  refine lv_lconst (v := lN 0) Z.1 Z.2.1 dX8_isWorld_2 (by decide +kernel) ?_
  refine lv_aload_n Z.1 Z.2.1 dX8_isWorld_3 rfl (lv_at hl 0 rfl) ?_
  refine zk_get (C := RX8) (T := TX8) (N := 48) (ci := 8) Z hK G hinX8 0 rfl rfl 6 (by decide) (List.mem_cons_of_mem _ wa8_40) rfl (v := .int (nI n)) rfl dX8_isWorld_4 ?_
  refine lv_iconst (v := nI 1) Z.1 Z.2.1 dX8_isWorld_7 (by decide +kernel) ?_
  refine zk_isub Z dX8_isWorld_8 (z := nI n - nI 1) rfl ?_
  refine lv_i2l (v := (nI n - nI 1).toInt64) Z.1 Z.2.1 dX8_isWorld_9 rfl ?_
  refine zk_ci (WF := fun (_ : Unit) => [(b 100, .inr (8, [.ref (b 0), .ref (b 1), .ref (b 2), .ref (b 3), .int (m 4), .int (m 5), .int (nI n), .int (m 7), .ref (b 8), .int (m 9), .ref (b 10), .int (m 11), .int (m 12), .int (m 13), .int (m 14), .int (m 15), .int (m 16), .ref (b 17), .ref (b 18), .ref (b 19), .ref (b 20), .ref (b 21), .ref (b 22), .ref (b 23), .ref (b 24), .int (m 25), .int (m 26), .int (m 27), .int (m 28), .ref (b 29), .ref (b 30), .int (m 31), .int (m 32), .int (m 33), .int (m 34), .int (m 35), .ref (b 36), .ref (b 37), .int (m 38), .ref (b 39), .ref (b 40), .int (m 41), .int (m 42), .int (m 43), .ref (b 44), .ref (b 45), .ref (b 46), .ref (b 47)]))]) (wr := [(b 100, .inr (8, [.ref (b 0), .ref (b 1), .ref (b 2), .ref (b 3), .int (m 4), .int (m 5), .int (nI n), .int (m 7), .ref (b 8), .int (m 9), .ref (b 10), .int (m 11), .int (m 12), .int (m 13), .int (m 14), .int (m 15), .int (m 16), .ref (b 17), .ref (b 18), .ref (b 19), .ref (b 20), .ref (b 21), .ref (b 22), .ref (b 23), .ref (b 24), .int (m 25), .int (m 26), .int (m 27), .int (m 28), .ref (b 29), .ref (b 30), .int (m 31), .int (m 32), .int (m 33), .int (m 34), .int (m 35), .ref (b 36), .ref (b 37), .int (m 38), .ref (b 39), .ref (b 40), .int (m 41), .int (m 42), .int (m 43), .ref (b 44), .ref (b 45), .ref (b 46), .ref (b 47)]))]) ⟨rfl, rfl⟩ (zk_rs (As := [.long w.toInt64, .long (lN 0), .long ((nI n - nI 1).toInt64)]) (rest := []) Z ((ct_X8_within l D g τ w.toInt64 (lN 0) ((nI n - nI 1).toInt64) ) sS.heap.size) hK hT hA G [] rfl (by decide) gmX8_isWorld_X8_within rfl dvX8_within ⟨by decide, by decide⟩ rfl hl.1 rfl (Nat.le_of_ble_eq_true rfl) dX8_isWorld_10 ⟨Nat.zero_le _, Nat.zero_le _⟩) hA G [] [0] [0] rfl rfl (by decide) (by decide) (by decide) (fun _ => rfl) (fun r_10 _ H locs w_10 G => ?_)
  obtain rfl : r_10 = zk_b (zm_in w.toInt64 (lN 0) ((nI n - nI 1).toInt64)) := w_10
  exact zk_retz Z hR_ hlk hK hQ G () (by rw [zm_in_w (by omega)]) rfl dX8_isWorld_13

abbrev rm_X8_isStep : Room := { frames := 1, cells := 0, slots := 0, locals := 25 }
theorem dvX8_isStep : zk_dv yX8_isStep RX8 1 := by decide +kernel
theorem gmX8_isStep_X8_within : GoodIn wmX8_isStep (va_wsS RX8 97 yX8_within wmX8_within) := goodIn_app (wa8_w (List.forall_mem_cons.mpr ⟨wa8_41, List.forall_mem_cons.mpr ⟨wa8_42, List.forall_mem_cons.mpr ⟨wa8_43, fun _ h => absurd h List.not_mem_nil⟩⟩⟩)) (wa8_sub wa8_0)
set_option maxRecDepth 100000 in
set_option maxHeartbeats 1500000 in
theorem ct_X8_isStep (l : Launch) (D : va_G) (g : Nat → ClassId) (τ : Nat → Nat) (t : Int32)  : zk_MI l D g τ yX8_isStep wmX8_isStep rm_X8_isStep [.int t] [] (fun (r : Int32) (_ : Unit) => r = zk_b (zb_s t)) (fun (_ : Unit) => []) := by
  refine zk_of (av := [.int t]) (W0 := []) (y := yX8_isStep) (wd := wmX8_isStep) (Qc := fun A => va_Qi (fun (r : Int32) (_ : Unit) => r = zk_b (zb_s t)) (zk_B D g A (fun (_ : Unit) => [])) A) (cc := cX8_isStep) (maxL := 1) (ret := (some .boolean)) (own := RX8) (by decide) rfl rfl (Nat.le_of_ble_eq_true rfl) ?_
  intro pP eE sS mM args below meth cC aA ls qQ Z hR_ hlk hnm hK hT hA hQ G hl
  refine lv_iload_n Z.1 Z.2.1 dX8_isStep_0 rfl (lv_at hl 0 rfl) ?_
  refine lv_i2l (v := t.toInt64) Z.1 Z.2.1 dX8_isStep_1 rfl ?_
  refine lv_lconst (v := lN 0) Z.1 Z.2.1 dX8_isStep_2 (by decide +kernel) ?_
  refine lv_ldc2 (v := lN 999999) Z.1 Z.2.1 Z.2.2.2.1 (Z.2.2.2.2 _ (List.mem_cons_of_mem _ wa8_49)) dX8_isStep_3 ?_
  refine zk_ci (WF := fun (_ : Unit) => []) (wr := []) ⟨rfl, rfl⟩ (zk_rs (As := [.long t.toInt64, .long (lN 0), .long (lN 999999)]) (rest := []) Z ((ct_X8_within l D g τ t.toInt64 (lN 0) (lN 999999) ) sS.heap.size) hK hT hA G [] rfl (by decide) gmX8_isStep_X8_within rfl dvX8_within ⟨by decide, by decide⟩ rfl hl.1 rfl (Nat.le_of_ble_eq_true rfl) dX8_isStep_6 ⟨Nat.zero_le _, Nat.zero_le _⟩) hA G [] [] [] rfl rfl (by decide) (by decide) (by decide) (fun _ => rfl) (fun r_6 _ H locs w_6 G => ?_)
  obtain rfl : r_6 = zk_b (zm_in t.toInt64 (lN 0) (lN 999999)) := w_6
  exact zk_retz Z hR_ hlk hK hQ G () (by rw [zm_in_s]) rfl dX8_isStep_9

abbrev rm_X8_isPq : Room := { frames := 2, cells := 0, slots := 0, locals := 46 }
theorem dvX8_isPq : zk_dv yX8_isPq RX8 1 := by decide +kernel
theorem gmX8_isPq_X8_isWorld : GoodIn wmX8_isPq (wsV RX8 101 RX8 yX8_isWorld wmX8_isWorld) := goodIn_app (wa8_w (List.forall_mem_cons.mpr ⟨wa8_45, List.forall_mem_cons.mpr ⟨wa8_46, List.forall_mem_cons.mpr ⟨wa8_47, List.forall_mem_cons.mpr ⟨wa8_43, fun _ h => absurd h List.not_mem_nil⟩⟩⟩⟩)) (wa8_sub wa8_39)
set_option maxRecDepth 100000 in
set_option maxHeartbeats 1500000 in
theorem ct_X8_isPq (l : Launch) (D : va_G) (g : Nat → ClassId) (τ : Nat → Nat) (b : Nat → Nat) (m : Nat → Int32) (n : Nat) (pq : Int32) (hn : n ≤ 7) : zk_MI l D g τ yX8_isPq wmX8_isPq rm_X8_isPq [.ref (b 100), .int pq] [(b 100, .inr (8, [.ref (b 0), .ref (b 1), .ref (b 2), .ref (b 3), .int (m 4), .int (m 5), .int (nI n), .int (m 7), .ref (b 8), .int (m 9), .ref (b 10), .int (m 11), .int (m 12), .int (m 13), .int (m 14), .int (m 15), .int (m 16), .ref (b 17), .ref (b 18), .ref (b 19), .ref (b 20), .ref (b 21), .ref (b 22), .ref (b 23), .ref (b 24), .int (m 25), .int (m 26), .int (m 27), .int (m 28), .ref (b 29), .ref (b 30), .int (m 31), .int (m 32), .int (m 33), .int (m 34), .int (m 35), .ref (b 36), .ref (b 37), .int (m 38), .ref (b 39), .ref (b 40), .int (m 41), .int (m 42), .int (m 43), .ref (b 44), .ref (b 45), .ref (b 46), .ref (b 47)]))] (fun (r : Int32) (_ : Unit) => r = zk_b (zb_pair n pq)) (fun (_ : Unit) => [(b 100, .inr (8, [.ref (b 0), .ref (b 1), .ref (b 2), .ref (b 3), .int (m 4), .int (m 5), .int (nI n), .int (m 7), .ref (b 8), .int (m 9), .ref (b 10), .int (m 11), .int (m 12), .int (m 13), .int (m 14), .int (m 15), .int (m 16), .ref (b 17), .ref (b 18), .ref (b 19), .ref (b 20), .ref (b 21), .ref (b 22), .ref (b 23), .ref (b 24), .int (m 25), .int (m 26), .int (m 27), .int (m 28), .ref (b 29), .ref (b 30), .int (m 31), .int (m 32), .int (m 33), .int (m 34), .int (m 35), .ref (b 36), .ref (b 37), .int (m 38), .ref (b 39), .ref (b 40), .int (m 41), .int (m 42), .int (m 43), .ref (b 44), .ref (b 45), .ref (b 46), .ref (b 47)]))]) := by
  refine zk_of (av := [.ref (b 100), .int pq]) (W0 := [(b 100, .inr (8, [.ref (b 0), .ref (b 1), .ref (b 2), .ref (b 3), .int (m 4), .int (m 5), .int (nI n), .int (m 7), .ref (b 8), .int (m 9), .ref (b 10), .int (m 11), .int (m 12), .int (m 13), .int (m 14), .int (m 15), .int (m 16), .ref (b 17), .ref (b 18), .ref (b 19), .ref (b 20), .ref (b 21), .ref (b 22), .ref (b 23), .ref (b 24), .int (m 25), .int (m 26), .int (m 27), .int (m 28), .ref (b 29), .ref (b 30), .int (m 31), .int (m 32), .int (m 33), .int (m 34), .int (m 35), .ref (b 36), .ref (b 37), .int (m 38), .ref (b 39), .ref (b 40), .int (m 41), .int (m 42), .int (m 43), .ref (b 44), .ref (b 45), .ref (b 46), .ref (b 47)]))]) (y := yX8_isPq) (wd := wmX8_isPq) (Qc := fun A => va_Qi (fun (r : Int32) (_ : Unit) => r = zk_b (zb_pair n pq)) (zk_B D g A (fun (_ : Unit) => [(b 100, .inr (8, [.ref (b 0), .ref (b 1), .ref (b 2), .ref (b 3), .int (m 4), .int (m 5), .int (nI n), .int (m 7), .ref (b 8), .int (m 9), .ref (b 10), .int (m 11), .int (m 12), .int (m 13), .int (m 14), .int (m 15), .int (m 16), .ref (b 17), .ref (b 18), .ref (b 19), .ref (b 20), .ref (b 21), .ref (b 22), .ref (b 23), .ref (b 24), .int (m 25), .int (m 26), .int (m 27), .int (m 28), .ref (b 29), .ref (b 30), .int (m 31), .int (m 32), .int (m 33), .int (m 34), .int (m 35), .ref (b 36), .ref (b 37), .int (m 38), .ref (b 39), .ref (b 40), .int (m 41), .int (m 42), .int (m 43), .ref (b 44), .ref (b 45), .ref (b 46), .ref (b 47)]))])) A) (cc := cX8_isPq) (maxL := 2) (ret := (some .boolean)) (own := RX8) (by decide) rfl rfl (Nat.le_of_ble_eq_true rfl) ?_
  intro pP eE sS mM args below meth cC aA ls qQ Z hR_ hlk hnm hK hT hA hQ G hl
  refine lv_iload_n Z.1 Z.2.1 dX8_isPq_0 rfl (lv_at hl 1 rfl) ?_
  refine lv_if_lt (tgt := 41) Z.1 Z.2.1 dX8_isPq_1 (by decide) (fun c1 => ?_) (fun c1 => ?_)
  · have c1 : pq < 0 := c1
    refine lv_iconst (v := nI 0) Z.1 Z.2.1 dX8_isPq_41 (by decide +kernel) ?_
    refine W.eq (g2 := F0 mM 42 ls [.int (zk_b false)]) rfl ?_
    exact zk_retz Z hR_ hlk hK hQ G () (by rw [zb_pair_neg c1]) rfl dX8_isPq_42
  have c1 : ¬ pq < 0 := c1
  obtain ⟨j, hj, rfl⟩ := nI_of c1
  refine lv_aload_n Z.1 Z.2.1 dX8_isPq_4 rfl (lv_at hl 0 rfl) ?_
  refine lv_iload_n Z.1 Z.2.1 dX8_isPq_5 rfl (lv_at hl 1 rfl) ?_
  refine lv_bipush (v := nI 10) Z.1 Z.2.1 dX8_isPq_6 (by decide +kernel) ?_
  refine zk_idiv Z dX8_isPq_8 (nI_ne0 (by omega) (by omega)) (z := nI (j / 10)) (pk_div (by omega) (by omega) (by omega)) ?_
  refine zk_ci (WF := fun (_ : Unit) => [(b 100, .inr (8, [.ref (b 0), .ref (b 1), .ref (b 2), .ref (b 3), .int (m 4), .int (m 5), .int (nI n), .int (m 7), .ref (b 8), .int (m 9), .ref (b 10), .int (m 11), .int (m 12), .int (m 13), .int (m 14), .int (m 15), .int (m 16), .ref (b 17), .ref (b 18), .ref (b 19), .ref (b 20), .ref (b 21), .ref (b 22), .ref (b 23), .ref (b 24), .int (m 25), .int (m 26), .int (m 27), .int (m 28), .ref (b 29), .ref (b 30), .int (m 31), .int (m 32), .int (m 33), .int (m 34), .int (m 35), .ref (b 36), .ref (b 37), .int (m 38), .ref (b 39), .ref (b 40), .int (m 41), .int (m 42), .int (m 43), .ref (b 44), .ref (b 45), .ref (b 46), .ref (b 47)]))]) (wr := []) ⟨rfl, rfl⟩ (zk_rv (As := [.int (nI (j / 10))]) (rest := []) (q0 := 0) (ci := 8) Z ((ct_X8_isWorld l D g τ b m n (nI (j / 10)) (by exact hn)) sS.heap.size) hK hT hA G [0] rfl (by decide) rfl rfl gmX8_isPq_X8_isWorld rfl dvX8_isWorld ⟨by decide, by decide⟩ rfl hl.1 rfl (Nat.le_of_ble_eq_true rfl) dX8_isPq_9 ⟨Nat.zero_le _, Nat.zero_le _⟩) hA G [0] [] [0] rfl rfl (by decide) (by decide) (by decide) (fun _ => rfl) (fun r_9 _ H locs w_9 G => ?_)
  obtain rfl : r_9 = zk_b (zb_w n (nI (j / 10))) := w_9
  refine lv_if_eq (tgt := 41) Z.1 Z.2.1 dX8_isPq_12 (by decide) (fun c12 => ?_) (fun c12 => ?_)
  · have c12 : (zb_w n (nI (j / 10))) = false := zk_b0.mp c12
    refine lv_iconst (v := nI 0) Z.1 Z.2.1 dX8_isPq_41 (by decide +kernel) ?_
    refine W.eq (g2 := F0 mM 42 ls [.int (zk_b false)]) rfl ?_
    exact zk_retz Z hR_ hlk hK hQ G () (by rw [zb_pair_n hj, ← zb_w_n (n := n) (j := j / 10) (by omega), ← zb_w_n (n := n) (j := j % 10) (by omega)]; exact congrArg zk_b (by simp [c12])) rfl dX8_isPq_42
  have c12 : (zb_w n (nI (j / 10))) = true := zk_b1.mp c12
  refine lv_aload_n Z.1 Z.2.1 dX8_isPq_15 rfl (lv_at hl 0 rfl) ?_
  refine lv_iload_n Z.1 Z.2.1 dX8_isPq_16 rfl (lv_at hl 1 rfl) ?_
  refine lv_bipush (v := nI 10) Z.1 Z.2.1 dX8_isPq_17 (by decide +kernel) ?_
  refine zk_irem Z dX8_isPq_19 (nI_ne0 (by omega) (by omega)) (z := nI (j % 10)) (pk_rem (by omega) (by omega) (by omega)) ?_
  refine zk_ci (WF := fun (_ : Unit) => [(b 100, .inr (8, [.ref (b 0), .ref (b 1), .ref (b 2), .ref (b 3), .int (m 4), .int (m 5), .int (nI n), .int (m 7), .ref (b 8), .int (m 9), .ref (b 10), .int (m 11), .int (m 12), .int (m 13), .int (m 14), .int (m 15), .int (m 16), .ref (b 17), .ref (b 18), .ref (b 19), .ref (b 20), .ref (b 21), .ref (b 22), .ref (b 23), .ref (b 24), .int (m 25), .int (m 26), .int (m 27), .int (m 28), .ref (b 29), .ref (b 30), .int (m 31), .int (m 32), .int (m 33), .int (m 34), .int (m 35), .ref (b 36), .ref (b 37), .int (m 38), .ref (b 39), .ref (b 40), .int (m 41), .int (m 42), .int (m 43), .ref (b 44), .ref (b 45), .ref (b 46), .ref (b 47)]))]) (wr := []) ⟨rfl, rfl⟩ (zk_rv (As := [.int (nI (j % 10))]) (rest := []) (q0 := 0) (ci := 8) Z ((ct_X8_isWorld l D g τ b m n (nI (j % 10)) (by exact hn)) H.size) hK hT hA G [0] rfl (by decide) rfl rfl gmX8_isPq_X8_isWorld rfl dvX8_isWorld ⟨by decide, by decide⟩ rfl hl.1 rfl (Nat.le_of_ble_eq_true rfl) dX8_isPq_20 ⟨Nat.zero_le _, Nat.zero_le _⟩) hA G [0] [] [0] rfl rfl (by decide) (by decide) (by decide) (fun _ => rfl) (fun r_20 _ H locs w_20 G => ?_)
  obtain rfl : r_20 = zk_b (zb_w n (nI (j % 10))) := w_20
  refine lv_if_eq (tgt := 41) Z.1 Z.2.1 dX8_isPq_23 (by decide) (fun c23 => ?_) (fun c23 => ?_)
  · have c23 : (zb_w n (nI (j % 10))) = false := zk_b0.mp c23
    refine lv_iconst (v := nI 0) Z.1 Z.2.1 dX8_isPq_41 (by decide +kernel) ?_
    refine W.eq (g2 := F0 mM 42 ls [.int (zk_b false)]) rfl ?_
    exact zk_retz Z hR_ hlk hK hQ G () (by rw [zb_pair_n hj, ← zb_w_n (n := n) (j := j / 10) (by omega), ← zb_w_n (n := n) (j := j % 10) (by omega)]; exact congrArg zk_b (by simp [c12, c23])) rfl dX8_isPq_42
  have c23 : (zb_w n (nI (j % 10))) = true := zk_b1.mp c23
  refine lv_iload_n Z.1 Z.2.1 dX8_isPq_26 rfl (lv_at hl 1 rfl) ?_
  refine lv_bipush (v := nI 10) Z.1 Z.2.1 dX8_isPq_27 (by decide +kernel) ?_
  refine zk_idiv Z dX8_isPq_29 (nI_ne0 (by omega) (by omega)) (z := nI (j / 10)) (pk_div (by omega) (by omega) (by omega)) ?_
  refine lv_iload_n Z.1 Z.2.1 dX8_isPq_30 rfl (lv_at hl 1 rfl) ?_
  refine lv_bipush (v := nI 10) Z.1 Z.2.1 dX8_isPq_31 (by decide +kernel) ?_
  refine zk_irem Z dX8_isPq_33 (nI_ne0 (by omega) (by omega)) (z := nI (j % 10)) (pk_rem (by omega) (by omega) (by omega)) ?_
  refine lv_icmp_eq (tgt := 41) Z.1 Z.2.1 dX8_isPq_34 (by decide) (fun c34 => ?_) (fun c34 => ?_)
  · have c34 : j / 10 = j % 10 := zk_eq (by omega) (by omega) c34
    refine lv_iconst (v := nI 0) Z.1 Z.2.1 dX8_isPq_41 (by decide +kernel) ?_
    refine W.eq (g2 := F0 mM 42 ls [.int (zk_b false)]) rfl ?_
    exact zk_retz Z hR_ hlk hK hQ G () (by rw [zb_pair_n hj, ← zb_w_n (n := n) (j := j / 10) (by omega), ← zb_w_n (n := n) (j := j % 10) (by omega)]; exact congrArg zk_b (by simp [c12, c23, c34])) rfl dX8_isPq_42
  have c34 : j / 10 ≠ j % 10 := zk_neq (by omega) (by omega) c34
  refine lv_iconst (v := nI 1) Z.1 Z.2.1 dX8_isPq_37 (by decide +kernel) ?_
  refine lv_goto (tgt := 42) Z.1 Z.2.1 dX8_isPq_38 (by decide) ?_
  refine W.eq (g2 := F0 mM 42 ls [.int (zk_b true)]) rfl ?_
  exact zk_retz Z hR_ hlk hK hQ G () (by rw [zb_pair_n hj, ← zb_w_n (n := n) (j := j / 10) (by omega), ← zb_w_n (n := n) (j := j % 10) (by omega)]; exact congrArg zk_b (by simp [c12, c23, c34])) rfl dX8_isPq_42

abbrev rm_X8_isOne : Room := { frames := 1, cells := 0, slots := 0, locals := 25 }
theorem dvX8_isOne : zk_dv yX8_isOne RX8 3 := by decide +kernel
theorem gmX8_isOne_X8_within : GoodIn wmX8_isOne (va_wsS RX8 97 yX8_within wmX8_within) := goodIn_app (wa8_w (List.forall_mem_cons.mpr ⟨wa8_41, List.forall_mem_cons.mpr ⟨wa8_42, List.forall_mem_cons.mpr ⟨wa8_43, fun _ h => absurd h List.not_mem_nil⟩⟩⟩)) (wa8_sub wa8_0)
set_option maxRecDepth 100000 in
set_option maxHeartbeats 1500000 in
theorem ct_X8_isOne (l : Launch) (D : va_G) (g : Nat → ClassId) (τ : Nat → Nat) (x : Int64) (y : Int64) (z : Int64)  : zk_MI l D g τ yX8_isOne wmX8_isOne rm_X8_isOne [.long x, .long y, .long z] [] (fun (r : Int32) (_ : Unit) => r = zk_b (zm_one x y z)) (fun (_ : Unit) => []) := by
  refine zk_of (av := [.long x, .long y, .long z]) (W0 := []) (y := yX8_isOne) (wd := wmX8_isOne) (Qc := fun A => va_Qi (fun (r : Int32) (_ : Unit) => r = zk_b (zm_one x y z)) (zk_B D g A (fun (_ : Unit) => [])) A) (cc := cX8_isOne) (maxL := 6) (ret := (some .boolean)) (own := RX8) (by decide) rfl rfl (Nat.le_of_ble_eq_true rfl) ?_
  intro pP eE sS mM args below meth cC aA ls qQ Z hR_ hlk hnm hK hT hA hQ G hl
  refine lv_lload_n Z.1 Z.2.1 dX8_isOne_0 rfl (lv_at hl 0 rfl) ?_
  refine lv_lconst (v := lN 1) Z.1 Z.2.1 dX8_isOne_1 (by decide +kernel) ?_
  refine lv_ldc2 (v := lN 12) Z.1 Z.2.1 Z.2.2.2.1 (Z.2.2.2.2 _ (List.mem_cons_of_mem _ wa8_51)) dX8_isOne_2 ?_
  refine zk_ci (WF := fun (_ : Unit) => []) (wr := []) ⟨rfl, rfl⟩ (zk_rs (As := [.long x, .long (lN 1), .long (lN 12)]) (rest := []) Z ((ct_X8_within l D g τ x (lN 1) (lN 12) ) sS.heap.size) hK hT hA G [] rfl (by decide) gmX8_isOne_X8_within rfl dvX8_within ⟨by decide, by decide⟩ rfl hl.1 rfl (Nat.le_of_ble_eq_true rfl) dX8_isOne_5 ⟨Nat.zero_le _, Nat.zero_le _⟩) hA G [] [] [] rfl rfl (by decide) (by decide) (by decide) (fun _ => rfl) (fun r_5 _ H locs w_5 G => ?_)
  obtain rfl : r_5 = zk_b (zm_in x (lN 1) (lN 12)) := w_5
  refine lv_if_eq (tgt := 38) Z.1 Z.2.1 dX8_isOne_8 (by decide) (fun c8 => ?_) (fun c8 => ?_)
  · have c8 : (zm_in x (lN 1) (lN 12)) = false := zk_b0.mp c8
    refine lv_iconst (v := nI 0) Z.1 Z.2.1 dX8_isOne_38 (by decide +kernel) ?_
    refine W.eq (g2 := F0 mM 39 ls [.int (zk_b false)]) rfl ?_
    exact zk_retz Z hR_ hlk hK hQ G () (congrArg zk_b (by simp [zm_one, c8])) rfl dX8_isOne_39
  have c8 : (zm_in x (lN 1) (lN 12)) = true := zk_b1.mp c8
  refine lv_lload_n Z.1 Z.2.1 dX8_isOne_11 rfl (lv_at hl 1 rfl) ?_
  refine lv_lconst (v := lN 0) Z.1 Z.2.1 dX8_isOne_12 (by decide +kernel) ?_
  refine lv_lload_n Z.1 Z.2.1 dX8_isOne_13 rfl (lv_at hl 0 rfl) ?_
  refine lv_lconst (v := lN 1) Z.1 Z.2.1 dX8_isOne_14 (by decide +kernel) ?_
  refine zk_lsub Z dX8_isOne_15 (z := x - (lN 1)) rfl ?_
  refine zk_ci (WF := fun (_ : Unit) => []) (wr := []) ⟨rfl, rfl⟩ (zk_rs (As := [.long y, .long (lN 0), .long (x - (lN 1))]) (rest := []) Z ((ct_X8_within l D g τ y (lN 0) (x - (lN 1)) ) H.size) hK hT hA G [] rfl (by decide) gmX8_isOne_X8_within rfl dvX8_within ⟨by decide, by decide⟩ rfl hl.1 rfl (Nat.le_of_ble_eq_true rfl) dX8_isOne_16 ⟨Nat.zero_le _, Nat.zero_le _⟩) hA G [] [] [] rfl rfl (by decide) (by decide) (by decide) (fun _ => rfl) (fun r_16 _ H locs w_16 G => ?_)
  obtain rfl : r_16 = zk_b (zm_in y (lN 0) (x - (lN 1))) := w_16
  refine lv_if_eq (tgt := 38) Z.1 Z.2.1 dX8_isOne_19 (by decide) (fun c19 => ?_) (fun c19 => ?_)
  · have c19 : (zm_in y (lN 0) (x - (lN 1))) = false := zk_b0.mp c19
    refine lv_iconst (v := nI 0) Z.1 Z.2.1 dX8_isOne_38 (by decide +kernel) ?_
    refine W.eq (g2 := F0 mM 39 ls [.int (zk_b false)]) rfl ?_
    exact zk_retz Z hR_ hlk hK hQ G () (congrArg zk_b (by simp [zm_one, c8, c19])) rfl dX8_isOne_39
  have c19 : (zm_in y (lN 0) (x - (lN 1))) = true := zk_b1.mp c19
  refine lv_lload Z.1 Z.2.1 dX8_isOne_22 (lv_at hl 2 rfl) ?_
  refine lv_lconst (v := lN 1) Z.1 Z.2.1 dX8_isOne_24 (by decide +kernel) ?_
  refine lv_ldc2 (v := lN 9) Z.1 Z.2.1 Z.2.2.2.1 (Z.2.2.2.2 _ (List.mem_cons_of_mem _ wa8_52)) dX8_isOne_25 ?_
  refine zk_ci (WF := fun (_ : Unit) => []) (wr := []) ⟨rfl, rfl⟩ (zk_rs (As := [.long z, .long (lN 1), .long (lN 9)]) (rest := []) Z ((ct_X8_within l D g τ z (lN 1) (lN 9) ) H.size) hK hT hA G [] rfl (by decide) gmX8_isOne_X8_within rfl dvX8_within ⟨by decide, by decide⟩ rfl hl.1 rfl (Nat.le_of_ble_eq_true rfl) dX8_isOne_28 ⟨Nat.zero_le _, Nat.zero_le _⟩) hA G [] [] [] rfl rfl (by decide) (by decide) (by decide) (fun _ => rfl) (fun r_28 _ H locs w_28 G => ?_)
  obtain rfl : r_28 = zk_b (zm_in z (lN 1) (lN 9)) := w_28
  refine lv_if_eq (tgt := 38) Z.1 Z.2.1 dX8_isOne_31 (by decide) (fun c31 => ?_) (fun c31 => ?_)
  · have c31 : (zm_in z (lN 1) (lN 9)) = false := zk_b0.mp c31
    refine lv_iconst (v := nI 0) Z.1 Z.2.1 dX8_isOne_38 (by decide +kernel) ?_
    refine W.eq (g2 := F0 mM 39 ls [.int (zk_b false)]) rfl ?_
    exact zk_retz Z hR_ hlk hK hQ G () (congrArg zk_b (by simp [zm_one, c8, c19, c31])) rfl dX8_isOne_39
  have c31 : (zm_in z (lN 1) (lN 9)) = true := zk_b1.mp c31
  refine lv_iconst (v := nI 1) Z.1 Z.2.1 dX8_isOne_34 (by decide +kernel) ?_
  refine lv_goto (tgt := 39) Z.1 Z.2.1 dX8_isOne_35 (by decide) ?_
  refine W.eq (g2 := F0 mM 39 ls [.int (zk_b true)]) rfl ?_
  exact zk_retz Z hR_ hlk hK hQ G () (congrArg zk_b (by simp [zm_one, c8, c19, c31])) rfl dX8_isOne_39

abbrev rm_X8_adds : Room := { frames := 0, cells := 0, slots := 0, locals := 0 }
theorem dvX8_adds : zk_dv yX8_adds RX8 3 := by decide +kernel
set_option maxRecDepth 100000 in
set_option maxHeartbeats 1500000 in
theorem ct_X8_adds (l : Launch) (D : va_G) (g : Nat → ClassId) (τ : Nat → Nat) (b : Nat → Nat) (m : Nat → Int32) (n : Nat) (M : Nat → Nat) (p1 : Nat) (q1 : Nat) (r1 : Nat) (hn : n < 7) : zk_MV l D g τ yX8_adds wmX8_adds rm_X8_adds [.ref (b 100), .int (nI p1), .int (nI q1), .int (nI r1)] [(b 100, .inr (8, [.ref (b 0), .ref (b 1), .ref (b 2), .ref (b 3), .int (m 4), .int (m 5), .int (nI n), .int (m 7), .ref (b 8), .int (m 9), .ref (b 10), .int (m 11), .int (m 12), .int (m 13), .int (m 14), .int (m 15), .int (m 16), .ref (b 17), .ref (b 18), .ref (b 19), .ref (b 20), .ref (b 21), .ref (b 22), .ref (b 23), .ref (b 24), .int (m 25), .int (m 26), .int (m 27), .int (m 28), .ref (b 29), .ref (b 30), .int (m 31), .int (m 32), .int (m 33), .int (m 34), .int (m 35), .ref (b 36), .ref (b 37), .int (m 38), .ref (b 39), .ref (b 40), .int (m 41), .int (m 42), .int (m 43), .ref (b 44), .ref (b 45), .ref (b 46), .ref (b 47)])), (b 0, .inl (g 0, 23, .inl (fun i => nI (M i))))] (fun (_ : Unit) => True) (fun (_ : Unit) => [(b 100, .inr (8, [.ref (b 0), .ref (b 1), .ref (b 2), .ref (b 3), .int (m 4), .int (m 5), .int (nI (n + 1)), .int (m 7), .ref (b 8), .int (m 9), .ref (b 10), .int (m 11), .int (m 12), .int (m 13), .int (m 14), .int (m 15), .int (m 16), .ref (b 17), .ref (b 18), .ref (b 19), .ref (b 20), .ref (b 21), .ref (b 22), .ref (b 23), .ref (b 24), .int (m 25), .int (m 26), .int (m 27), .int (m 28), .ref (b 29), .ref (b 30), .int (m 31), .int (m 32), .int (m 33), .int (m 34), .int (m 35), .ref (b 36), .ref (b 37), .int (m 38), .ref (b 39), .ref (b 40), .int (m 41), .int (m 42), .int (m 43), .ref (b 44), .ref (b 45), .ref (b 46), .ref (b 47)])), (b 0, .inl (g 0, 23, .inl (fun i => nI (zs_up (zs_up (zs_up M n p1) (7 + n) q1) (14 + n) r1 i))))]) := by
  refine zk_of (av := [.ref (b 100), .int (nI p1), .int (nI q1), .int (nI r1)]) (W0 := [(b 100, .inr (8, [.ref (b 0), .ref (b 1), .ref (b 2), .ref (b 3), .int (m 4), .int (m 5), .int (nI n), .int (m 7), .ref (b 8), .int (m 9), .ref (b 10), .int (m 11), .int (m 12), .int (m 13), .int (m 14), .int (m 15), .int (m 16), .ref (b 17), .ref (b 18), .ref (b 19), .ref (b 20), .ref (b 21), .ref (b 22), .ref (b 23), .ref (b 24), .int (m 25), .int (m 26), .int (m 27), .int (m 28), .ref (b 29), .ref (b 30), .int (m 31), .int (m 32), .int (m 33), .int (m 34), .int (m 35), .ref (b 36), .ref (b 37), .int (m 38), .ref (b 39), .ref (b 40), .int (m 41), .int (m 42), .int (m 43), .ref (b 44), .ref (b 45), .ref (b 46), .ref (b 47)])), (b 0, .inl (g 0, 23, .inl (fun i => nI (M i))))]) (y := yX8_adds) (wd := wmX8_adds) (Qc := fun A => va_Qv (fun (_ : Unit) => True) (zk_B D g A (fun (_ : Unit) => [(b 100, .inr (8, [.ref (b 0), .ref (b 1), .ref (b 2), .ref (b 3), .int (m 4), .int (m 5), .int (nI (n + 1)), .int (m 7), .ref (b 8), .int (m 9), .ref (b 10), .int (m 11), .int (m 12), .int (m 13), .int (m 14), .int (m 15), .int (m 16), .ref (b 17), .ref (b 18), .ref (b 19), .ref (b 20), .ref (b 21), .ref (b 22), .ref (b 23), .ref (b 24), .int (m 25), .int (m 26), .int (m 27), .int (m 28), .ref (b 29), .ref (b 30), .int (m 31), .int (m 32), .int (m 33), .int (m 34), .int (m 35), .ref (b 36), .ref (b 37), .int (m 38), .ref (b 39), .ref (b 40), .int (m 41), .int (m 42), .int (m 43), .ref (b 44), .ref (b 45), .ref (b 46), .ref (b 47)])), (b 0, .inl (g 0, 23, .inl (fun i => nI (zs_up (zs_up (zs_up M n p1) (7 + n) q1) (14 + n) r1 i))))])) A) (cc := cX8_adds) (maxL := 4) (ret := none) (own := RX8) (by decide) rfl rfl (Nat.le_of_ble_eq_true rfl) ?_
  intro pP eE sS mM args below meth cC aA ls qQ Z hR_ hlk hnm hK hT hA hQ G hl
  have hinX8 : ∀ w ∈ u_ws RX8 TX8 48, w ∈ wmX8_adds := wa8_in
  refine lv_aload_n Z.1 Z.2.1 dX8_adds_0 rfl (lv_at hl 0 rfl) ?_
  refine zk_get (C := RX8) (T := TX8) (N := 48) (ci := 8) Z hK G hinX8 0 rfl rfl 0 (by decide) (List.mem_cons_of_mem _ wa8_7) rfl (v := .ref (b 0)) rfl dX8_adds_1 ?_
  refine lv_aload_n Z.1 Z.2.1 dX8_adds_4 rfl (lv_at hl 0 rfl) ?_
  refine zk_get (C := RX8) (T := TX8) (N := 48) (ci := 8) Z hK G hinX8 0 rfl rfl 6 (by decide) (List.mem_cons_of_mem _ wa8_40) rfl (v := .int (nI n)) rfl dX8_adds_5 ?_
  refine lv_iload_n Z.1 Z.2.1 dX8_adds_8 rfl (lv_at hl 1 rfl) ?_
  refine zk_iast Z hK G 1 rfl (k := n) (by omega) (by decide) (zs_up_n _ _ _) (ws' := [(b 100, .inr (8, [.ref (b 0), .ref (b 1), .ref (b 2), .ref (b 3), .int (m 4), .int (m 5), .int (nI n), .int (m 7), .ref (b 8), .int (m 9), .ref (b 10), .int (m 11), .int (m 12), .int (m 13), .int (m 14), .int (m 15), .int (m 16), .ref (b 17), .ref (b 18), .ref (b 19), .ref (b 20), .ref (b 21), .ref (b 22), .ref (b 23), .ref (b 24), .int (m 25), .int (m 26), .int (m 27), .int (m 28), .ref (b 29), .ref (b 30), .int (m 31), .int (m 32), .int (m 33), .int (m 34), .int (m 35), .ref (b 36), .ref (b 37), .int (m 38), .ref (b 39), .ref (b 40), .int (m 41), .int (m 42), .int (m 43), .ref (b 44), .ref (b 45), .ref (b 46), .ref (b 47)])), (b 0, .inl (g 0, 23, .inl (fun i => nI (zs_up M n p1 i))))]) rfl dX8_adds_9 (fun H locs G => ?_)
  refine lv_aload_n Z.1 Z.2.1 dX8_adds_10 rfl (lv_at hl 0 rfl) ?_
  refine zk_get (C := RX8) (T := TX8) (N := 48) (ci := 8) Z hK G hinX8 0 rfl rfl 0 (by decide) (List.mem_cons_of_mem _ wa8_7) rfl (v := .ref (b 0)) rfl dX8_adds_11 ?_
  refine lv_bipush (v := nI 7) Z.1 Z.2.1 dX8_adds_14 (by decide +kernel) ?_
  refine lv_aload_n Z.1 Z.2.1 dX8_adds_16 rfl (lv_at hl 0 rfl) ?_
  refine zk_get (C := RX8) (T := TX8) (N := 48) (ci := 8) Z hK G hinX8 0 rfl rfl 6 (by decide) (List.mem_cons_of_mem _ wa8_40) rfl (v := .int (nI n)) rfl dX8_adds_17 ?_
  refine zk_iadd Z dX8_adds_20 (z := nI (7 + n)) (nI_add _ _) ?_
  refine lv_iload_n Z.1 Z.2.1 dX8_adds_21 rfl (lv_at hl 2 rfl) ?_
  refine zk_iast Z hK G 1 rfl (k := 7 + n) (by omega) (by decide) (zs_up_n _ _ _) (ws' := [(b 100, .inr (8, [.ref (b 0), .ref (b 1), .ref (b 2), .ref (b 3), .int (m 4), .int (m 5), .int (nI n), .int (m 7), .ref (b 8), .int (m 9), .ref (b 10), .int (m 11), .int (m 12), .int (m 13), .int (m 14), .int (m 15), .int (m 16), .ref (b 17), .ref (b 18), .ref (b 19), .ref (b 20), .ref (b 21), .ref (b 22), .ref (b 23), .ref (b 24), .int (m 25), .int (m 26), .int (m 27), .int (m 28), .ref (b 29), .ref (b 30), .int (m 31), .int (m 32), .int (m 33), .int (m 34), .int (m 35), .ref (b 36), .ref (b 37), .int (m 38), .ref (b 39), .ref (b 40), .int (m 41), .int (m 42), .int (m 43), .ref (b 44), .ref (b 45), .ref (b 46), .ref (b 47)])), (b 0, .inl (g 0, 23, .inl (fun i => nI (zs_up (zs_up M n p1) (7 + n) q1 i))))]) rfl dX8_adds_22 (fun H locs G => ?_)
  refine lv_aload_n Z.1 Z.2.1 dX8_adds_23 rfl (lv_at hl 0 rfl) ?_
  refine zk_get (C := RX8) (T := TX8) (N := 48) (ci := 8) Z hK G hinX8 0 rfl rfl 0 (by decide) (List.mem_cons_of_mem _ wa8_7) rfl (v := .ref (b 0)) rfl dX8_adds_24 ?_
  refine lv_bipush (v := nI 14) Z.1 Z.2.1 dX8_adds_27 (by decide +kernel) ?_
  refine lv_aload_n Z.1 Z.2.1 dX8_adds_29 rfl (lv_at hl 0 rfl) ?_
  refine zk_get (C := RX8) (T := TX8) (N := 48) (ci := 8) Z hK G hinX8 0 rfl rfl 6 (by decide) (List.mem_cons_of_mem _ wa8_40) rfl (v := .int (nI n)) rfl dX8_adds_30 ?_
  refine zk_iadd Z dX8_adds_33 (z := nI (14 + n)) (nI_add _ _) ?_
  refine lv_iload_n Z.1 Z.2.1 dX8_adds_34 rfl (lv_at hl 3 rfl) ?_
  refine zk_iast Z hK G 1 rfl (k := 14 + n) (by omega) (by decide) (zs_up_n _ _ _) (ws' := [(b 100, .inr (8, [.ref (b 0), .ref (b 1), .ref (b 2), .ref (b 3), .int (m 4), .int (m 5), .int (nI n), .int (m 7), .ref (b 8), .int (m 9), .ref (b 10), .int (m 11), .int (m 12), .int (m 13), .int (m 14), .int (m 15), .int (m 16), .ref (b 17), .ref (b 18), .ref (b 19), .ref (b 20), .ref (b 21), .ref (b 22), .ref (b 23), .ref (b 24), .int (m 25), .int (m 26), .int (m 27), .int (m 28), .ref (b 29), .ref (b 30), .int (m 31), .int (m 32), .int (m 33), .int (m 34), .int (m 35), .ref (b 36), .ref (b 37), .int (m 38), .ref (b 39), .ref (b 40), .int (m 41), .int (m 42), .int (m 43), .ref (b 44), .ref (b 45), .ref (b 46), .ref (b 47)])), (b 0, .inl (g 0, 23, .inl (fun i => nI (zs_up (zs_up (zs_up M n p1) (7 + n) q1) (14 + n) r1 i))))]) rfl dX8_adds_35 (fun H locs G => ?_)
  refine lv_aload_n Z.1 Z.2.1 dX8_adds_36 rfl (lv_at hl 0 rfl) ?_
  refine lv_dup Z.1 Z.2.1 dX8_adds_37 rfl ?_
  refine zk_get (C := RX8) (T := TX8) (N := 48) (ci := 8) Z hK G hinX8 0 rfl rfl 6 (by decide) (List.mem_cons_of_mem _ wa8_40) rfl (v := .int (nI n)) rfl dX8_adds_38 ?_
  refine lv_iconst (v := nI 1) Z.1 Z.2.1 dX8_adds_41 (by decide +kernel) ?_
  refine zk_iadd Z dX8_adds_42 (z := nI (n + 1)) (nI_add _ _) ?_
  refine zk_put tyX8 tyX8_ok nmX8 (C := RX8) (T := TX8) (N := 48) (ci := 8) Z hK G hinX8 0 rfl rfl 6 (by decide) (List.mem_cons_of_mem _ wa8_40) rfl rfl rfl rfl (Nat.le_of_ble_eq_true rfl) (ws' := [(b 100, .inr (8, [.ref (b 0), .ref (b 1), .ref (b 2), .ref (b 3), .int (m 4), .int (m 5), .int (nI (n + 1)), .int (m 7), .ref (b 8), .int (m 9), .ref (b 10), .int (m 11), .int (m 12), .int (m 13), .int (m 14), .int (m 15), .int (m 16), .ref (b 17), .ref (b 18), .ref (b 19), .ref (b 20), .ref (b 21), .ref (b 22), .ref (b 23), .ref (b 24), .int (m 25), .int (m 26), .int (m 27), .int (m 28), .ref (b 29), .ref (b 30), .int (m 31), .int (m 32), .int (m 33), .int (m 34), .int (m 35), .ref (b 36), .ref (b 37), .int (m 38), .ref (b 39), .ref (b 40), .int (m 41), .int (m 42), .int (m 43), .ref (b 44), .ref (b 45), .ref (b 46), .ref (b 47)])), (b 0, .inl (g 0, 23, .inl (fun i => nI (zs_up (zs_up (zs_up M n p1) (7 + n) q1) (14 + n) r1 i))))]) rfl dX8_adds_43 (fun H locs G => ?_)
  exact zk_retv Z hR_ hlk hK hQ G () trivial rfl dX8_adds_46

abbrev rm_X8_placeAt : Room := { frames := 0, cells := 0, slots := 0, locals := 0 }
theorem dvX8_placeAt : zk_dv yX8_placeAt RX8 2 := by decide +kernel
set_option maxRecDepth 100000 in
set_option maxHeartbeats 1500000 in
theorem ct_X8_placeAt (l : Launch) (D : va_G) (g : Nat → ClassId) (τ : Nat → Nat) (b : Nat → Nat) (m : Nat → Int32) (M : Nat → Nat) (w : Nat) (t : Nat) (hw : w < 7) (h1 : 1 ≤ M w) (h2 : M w ≤ 12) (h3 : M (7 + w) < 12) (ht : t < 2 ^ 30) : zk_MI l D g τ yX8_placeAt wmX8_placeAt rm_X8_placeAt [.ref (b 100), .int (nI w), .int (nI t)] [(b 100, .inr (8, [.ref (b 0), .ref (b 1), .ref (b 2), .ref (b 3), .int (m 4), .int (m 5), .int (m 6), .int (m 7), .ref (b 8), .int (m 9), .ref (b 10), .int (m 11), .int (m 12), .int (m 13), .int (m 14), .int (m 15), .int (m 16), .ref (b 17), .ref (b 18), .ref (b 19), .ref (b 20), .ref (b 21), .ref (b 22), .ref (b 23), .ref (b 24), .int (m 25), .int (m 26), .int (m 27), .int (m 28), .ref (b 29), .ref (b 30), .int (m 31), .int (m 32), .int (m 33), .int (m 34), .int (m 35), .ref (b 36), .ref (b 37), .int (m 38), .ref (b 39), .ref (b 40), .int (m 41), .int (m 42), .int (m 43), .ref (b 44), .ref (b 45), .ref (b 46), .ref (b 47)])), (b 0, .inl (g 0, 23, .inl (fun i => nI (M i))))] (fun (r : Int32) (_ : Unit) => r = nI (zs_at M (zm_S M) w t)) (fun (_ : Unit) => [(b 100, .inr (8, [.ref (b 0), .ref (b 1), .ref (b 2), .ref (b 3), .int (m 4), .int (m 5), .int (m 6), .int (m 7), .ref (b 8), .int (m 9), .ref (b 10), .int (m 11), .int (m 12), .int (m 13), .int (m 14), .int (m 15), .int (m 16), .ref (b 17), .ref (b 18), .ref (b 19), .ref (b 20), .ref (b 21), .ref (b 22), .ref (b 23), .ref (b 24), .int (m 25), .int (m 26), .int (m 27), .int (m 28), .ref (b 29), .ref (b 30), .int (m 31), .int (m 32), .int (m 33), .int (m 34), .int (m 35), .ref (b 36), .ref (b 37), .int (m 38), .ref (b 39), .ref (b 40), .int (m 41), .int (m 42), .int (m 43), .ref (b 44), .ref (b 45), .ref (b 46), .ref (b 47)])), (b 0, .inl (g 0, 23, .inl (fun i => nI (M i))))]) := by
  refine zk_of (av := [.ref (b 100), .int (nI w), .int (nI t)]) (W0 := [(b 100, .inr (8, [.ref (b 0), .ref (b 1), .ref (b 2), .ref (b 3), .int (m 4), .int (m 5), .int (m 6), .int (m 7), .ref (b 8), .int (m 9), .ref (b 10), .int (m 11), .int (m 12), .int (m 13), .int (m 14), .int (m 15), .int (m 16), .ref (b 17), .ref (b 18), .ref (b 19), .ref (b 20), .ref (b 21), .ref (b 22), .ref (b 23), .ref (b 24), .int (m 25), .int (m 26), .int (m 27), .int (m 28), .ref (b 29), .ref (b 30), .int (m 31), .int (m 32), .int (m 33), .int (m 34), .int (m 35), .ref (b 36), .ref (b 37), .int (m 38), .ref (b 39), .ref (b 40), .int (m 41), .int (m 42), .int (m 43), .ref (b 44), .ref (b 45), .ref (b 46), .ref (b 47)])), (b 0, .inl (g 0, 23, .inl (fun i => nI (M i))))]) (y := yX8_placeAt) (wd := wmX8_placeAt) (Qc := fun A => va_Qi (fun (r : Int32) (_ : Unit) => r = nI (zs_at M (zm_S M) w t)) (zk_B D g A (fun (_ : Unit) => [(b 100, .inr (8, [.ref (b 0), .ref (b 1), .ref (b 2), .ref (b 3), .int (m 4), .int (m 5), .int (m 6), .int (m 7), .ref (b 8), .int (m 9), .ref (b 10), .int (m 11), .int (m 12), .int (m 13), .int (m 14), .int (m 15), .int (m 16), .ref (b 17), .ref (b 18), .ref (b 19), .ref (b 20), .ref (b 21), .ref (b 22), .ref (b 23), .ref (b 24), .int (m 25), .int (m 26), .int (m 27), .int (m 28), .ref (b 29), .ref (b 30), .int (m 31), .int (m 32), .int (m 33), .int (m 34), .int (m 35), .ref (b 36), .ref (b 37), .int (m 38), .ref (b 39), .ref (b 40), .int (m 41), .int (m 42), .int (m 43), .ref (b 44), .ref (b 45), .ref (b 46), .ref (b 47)])), (b 0, .inl (g 0, 23, .inl (fun i => nI (M i))))])) A) (cc := cX8_placeAt) (maxL := 3) (ret := (some .int)) (own := RX8) (by decide) rfl rfl (Nat.le_of_ble_eq_true rfl) ?_
  intro pP eE sS mM args below meth cC aA ls qQ Z hR_ hlk hnm hK hT hA hQ G hl
  have hinX8 : ∀ w ∈ u_ws RX8 TX8 48, w ∈ wmX8_placeAt := wa8_in
  refine lv_iload_n Z.1 Z.2.1 dX8_placeAt_0 rfl (lv_at hl 2 rfl) ?_
  refine lv_aload_n Z.1 Z.2.1 dX8_placeAt_1 rfl (lv_at hl 0 rfl) ?_
  refine zk_get (C := RX8) (T := TX8) (N := 48) (ci := 8) Z hK G hinX8 0 rfl rfl 0 (by decide) (List.mem_cons_of_mem _ wa8_7) rfl (v := .ref (b 0)) rfl dX8_placeAt_2 ?_
  refine lv_bipush (v := nI 7) Z.1 Z.2.1 dX8_placeAt_5 (by decide +kernel) ?_
  refine lv_iload_n Z.1 Z.2.1 dX8_placeAt_7 rfl (lv_at hl 1 rfl) ?_
  refine zk_iadd Z dX8_placeAt_8 (z := nI (7 + w)) (nI_add _ _) ?_
  refine zk_iald Z hK G 1 rfl (k := 7 + w) (by omega) (by decide) (v := nI (M (7 + w))) rfl dX8_placeAt_9 ?_
  refine zk_iadd Z dX8_placeAt_10 (z := nI (t + (M (7 + w)))) (nI_add _ _) ?_
  refine lv_aload_n Z.1 Z.2.1 dX8_placeAt_11 rfl (lv_at hl 0 rfl) ?_
  refine zk_get (C := RX8) (T := TX8) (N := 48) (ci := 8) Z hK G hinX8 0 rfl rfl 0 (by decide) (List.mem_cons_of_mem _ wa8_7) rfl (v := .ref (b 0)) rfl dX8_placeAt_12 ?_
  refine lv_iload_n Z.1 Z.2.1 dX8_placeAt_15 rfl (lv_at hl 1 rfl) ?_
  refine zk_iald Z hK G 1 rfl (k := w) (by omega) (by decide) (v := nI (M w)) rfl dX8_placeAt_16 ?_
  refine zk_irem Z dX8_placeAt_17 (nI_ne0 (by omega) (by omega)) (z := nI ((t + (M (7 + w))) % (M w))) (pk_rem (by omega) (by omega) (by omega)) ?_
  have q17 : (t + M (7 + w)) % M w < M w := Nat.mod_lt _ h1
  refine lv_sipush (v := nI 360) Z.1 Z.2.1 dX8_placeAt_18 (by decide +kernel) ?_
  refine zk_imul Z dX8_placeAt_21 (z := nI (((t + (M (7 + w))) % (M w)) * 360)) (pk_mul _ _) ?_
  refine lv_aload_n Z.1 Z.2.1 dX8_placeAt_22 rfl (lv_at hl 0 rfl) ?_
  refine zk_get (C := RX8) (T := TX8) (N := 48) (ci := 8) Z hK G hinX8 0 rfl rfl 0 (by decide) (List.mem_cons_of_mem _ wa8_7) rfl (v := .ref (b 0)) rfl dX8_placeAt_23 ?_
  refine lv_iload_n Z.1 Z.2.1 dX8_placeAt_26 rfl (lv_at hl 1 rfl) ?_
  refine zk_iald Z hK G 1 rfl (k := w) (by omega) (by decide) (v := nI (M w)) rfl dX8_placeAt_27 ?_
  refine zk_idiv Z dX8_placeAt_28 (nI_ne0 (by omega) (by omega)) (z := nI ((((t + (M (7 + w))) % (M w)) * 360) / (M w))) (pk_div (by omega) (by omega) (by omega)) ?_
  exact zk_reti Z hR_ hlk hK hQ G () rfl rfl dX8_placeAt_29

abbrev rm_X8_common : Room := { frames := 0, cells := 0, slots := 0, locals := 0 }
theorem dvX8_common : zk_dv yX8_common RX8 2 := by decide +kernel
set_option maxRecDepth 100000 in
set_option maxHeartbeats 1500000 in
theorem ct_X8_common (l : Launch) (D : va_G) (g : Nat → ClassId) (τ : Nat → Nat) (a0 : Nat) (b0 : Nat) (h1 : a0 < 2 ^ 31) (h2 : b0 < 2 ^ 31) : zk_MI l D g τ yX8_common wmX8_common rm_X8_common [.int (nI a0), .int (nI b0)] [] (fun (r : Int32) (_ : Unit) => r = nI (Nat.gcd a0 b0)) (fun (_ : Unit) => []) := by
  refine zk_of (av := [.int (nI a0), .int (nI b0)]) (W0 := []) (y := yX8_common) (wd := wmX8_common) (Qc := fun A => va_Qi (fun (r : Int32) (_ : Unit) => r = nI (Nat.gcd a0 b0)) (zk_B D g A (fun (_ : Unit) => [])) A) (cc := cX8_common) (maxL := 5) (ret := (some .int)) (own := RX8) (by decide) rfl rfl (Nat.le_of_ble_eq_true rfl) ?_
  intro pP eE sS mM args below meth cC aA ls qQ Z hR_ hlk hnm hK hT hA hQ G hl
  refine lv_iload_n Z.1 Z.2.1 dX8_common_0 rfl (lv_at hl 0 rfl) ?_
  refine lv_istore_n (lv' := [(2, .int (nI a0)), (0, .int (nI a0)), (1, .int (nI b0))]) Z.1 Z.2.1 dX8_common_1 rfl hl (by decide) rfl (fun ls hl => ?_)
  refine lv_iload_n Z.1 Z.2.1 dX8_common_2 rfl (lv_at hl 2 rfl) ?_
  refine lv_istore_n (lv' := [(3, .int (nI b0)), (2, .int (nI a0)), (0, .int (nI a0)), (1, .int (nI b0))]) Z.1 Z.2.1 dX8_common_3 rfl hl (by decide) rfl (fun ls hl => ?_)
  have L4 : ∀ (nN : Nat) (x : Nat) (y : Nat), y < nN → (Nat.gcd x y = Nat.gcd a0 b0) → (x < 2 ^ 31) → (y < 2 ^ 31) → ∀ (H : Heap) (locs : List Loc) (ls : Array Slot), zk_G D aA [] sS H locs → lv_has ls 5 [(2, .int (nI x)), (3, .int (nI y))] → W pP l eE rm_X8_common sS mM args below meth cC H locs 0 0 qQ (F0 mM 4 ls []) := by
    intro nN
    induction nN with
    | zero => intros; omega
    | succ nN ih4 =>
      intro x y hμ hg hx hy H locs ls G hl
      refine lv_iload_n Z.1 Z.2.1 dX8_common_4 rfl (lv_at hl 1 rfl) ?_
      refine lv_if_eq (tgt := 21) Z.1 Z.2.1 dX8_common_5 (by decide) (fun c5 => ?_) (fun c5 => ?_)
      · have c5 : y = 0 := zk_eq (by omega) (by omega) c5
        refine lv_iload_n Z.1 Z.2.1 dX8_common_21 rfl (lv_at hl 0 rfl) ?_
        exact zk_reti Z hR_ hlk hK hQ G () (by subst c5; rw [← hg, Nat.gcd_zero_right]) rfl dX8_common_22
      have c5 : y ≠ 0 := zk_neq (by omega) (by omega) c5
      refine lv_iload_n Z.1 Z.2.1 dX8_common_8 rfl (lv_at hl 0 rfl) ?_
      refine lv_iload_n Z.1 Z.2.1 dX8_common_9 rfl (lv_at hl 1 rfl) ?_
      refine zk_irem Z dX8_common_10 (nI_ne0 (by omega) (by omega)) (z := nI (x % y)) (pk_rem (by omega) (by omega) (by omega)) ?_
      refine lv_istore (lv' := [(4, .int (nI (x % y))), (2, .int (nI x)), (3, .int (nI y))]) Z.1 Z.2.1 dX8_common_11 hl (by decide) rfl (fun ls hl => ?_)
      refine lv_iload_n Z.1 Z.2.1 dX8_common_13 rfl (lv_at hl 2 rfl) ?_
      refine lv_istore_n (lv' := [(2, .int (nI y)), (4, .int (nI (x % y))), (3, .int (nI y))]) Z.1 Z.2.1 dX8_common_14 rfl hl (by decide) rfl (fun ls hl => ?_)
      refine lv_iload Z.1 Z.2.1 dX8_common_15 (lv_at hl 1 rfl) ?_
      refine lv_istore_n (lv' := [(3, .int (nI (x % y))), (2, .int (nI y)), (4, .int (nI (x % y)))]) Z.1 Z.2.1 dX8_common_17 rfl hl (by decide) rfl (fun ls hl => ?_)
      refine lv_goto (tgt := 4) Z.1 Z.2.1 dX8_common_18 (by decide) ?_
      exact ih4 y (x % y) (by exact Nat.lt_of_lt_of_le (Nat.mod_lt x (by omega)) (by omega)) (by exact zs_gcd_s hg) (by omega) (by exact Nat.lt_trans (Nat.mod_lt _ (by omega)) hy) _ _ _ G (lv_sub hl [1, 0] rfl)
  exact L4 _ a0 b0 (Nat.lt_succ_self _) (by rfl) (by omega) (by omega) _ _ _ G (lv_sub hl [1, 0] rfl)

abbrev rm_X8_roundOfTwo : Room := { frames := 1, cells := 0, slots := 0, locals := 24 }
theorem dvX8_roundOfTwo : zk_dv yX8_roundOfTwo RX8 2 := by decide +kernel
theorem gmX8_roundOfTwo_X8_common : GoodIn wmX8_roundOfTwo (va_wsS RX8 156 yX8_common wmX8_common) := goodIn_app (wa8_w (List.forall_mem_cons.mpr ⟨wa8_90, List.forall_mem_cons.mpr ⟨wa8_91, List.forall_mem_cons.mpr ⟨wa8_43, fun _ h => absurd h List.not_mem_nil⟩⟩⟩)) (wa8_sub wa8_92)
set_option maxRecDepth 100000 in
set_option maxHeartbeats 1500000 in
theorem ct_X8_roundOfTwo (l : Launch) (D : va_G) (g : Nat → ClassId) (τ : Nat → Nat) (b : Nat → Nat) (m : Nat → Int32) (M : Nat → Nat) (i : Nat) (j : Nat) (hi : i < 7) (hj : j < 7) (h1 : 1 ≤ M i) (h2 : M i ≤ 12) (h3 : 1 ≤ M j) (h4 : M j ≤ 12) : zk_MI l D g τ yX8_roundOfTwo wmX8_roundOfTwo rm_X8_roundOfTwo [.ref (b 100), .int (nI i), .int (nI j)] [(b 100, .inr (8, [.ref (b 0), .ref (b 1), .ref (b 2), .ref (b 3), .int (m 4), .int (m 5), .int (m 6), .int (m 7), .ref (b 8), .int (m 9), .ref (b 10), .int (m 11), .int (m 12), .int (m 13), .int (m 14), .int (m 15), .int (m 16), .ref (b 17), .ref (b 18), .ref (b 19), .ref (b 20), .ref (b 21), .ref (b 22), .ref (b 23), .ref (b 24), .int (m 25), .int (m 26), .int (m 27), .int (m 28), .ref (b 29), .ref (b 30), .int (m 31), .int (m 32), .int (m 33), .int (m 34), .int (m 35), .ref (b 36), .ref (b 37), .int (m 38), .ref (b 39), .ref (b 40), .int (m 41), .int (m 42), .int (m 43), .ref (b 44), .ref (b 45), .ref (b 46), .ref (b 47)])), (b 0, .inl (g 0, 23, .inl (fun i => nI (M i))))] (fun (r : Int32) (_ : Unit) => r = nI (zs_lcm (M i) (M j))) (fun (_ : Unit) => [(b 100, .inr (8, [.ref (b 0), .ref (b 1), .ref (b 2), .ref (b 3), .int (m 4), .int (m 5), .int (m 6), .int (m 7), .ref (b 8), .int (m 9), .ref (b 10), .int (m 11), .int (m 12), .int (m 13), .int (m 14), .int (m 15), .int (m 16), .ref (b 17), .ref (b 18), .ref (b 19), .ref (b 20), .ref (b 21), .ref (b 22), .ref (b 23), .ref (b 24), .int (m 25), .int (m 26), .int (m 27), .int (m 28), .ref (b 29), .ref (b 30), .int (m 31), .int (m 32), .int (m 33), .int (m 34), .int (m 35), .ref (b 36), .ref (b 37), .int (m 38), .ref (b 39), .ref (b 40), .int (m 41), .int (m 42), .int (m 43), .ref (b 44), .ref (b 45), .ref (b 46), .ref (b 47)])), (b 0, .inl (g 0, 23, .inl (fun i => nI (M i))))]) := by
  refine zk_of (av := [.ref (b 100), .int (nI i), .int (nI j)]) (W0 := [(b 100, .inr (8, [.ref (b 0), .ref (b 1), .ref (b 2), .ref (b 3), .int (m 4), .int (m 5), .int (m 6), .int (m 7), .ref (b 8), .int (m 9), .ref (b 10), .int (m 11), .int (m 12), .int (m 13), .int (m 14), .int (m 15), .int (m 16), .ref (b 17), .ref (b 18), .ref (b 19), .ref (b 20), .ref (b 21), .ref (b 22), .ref (b 23), .ref (b 24), .int (m 25), .int (m 26), .int (m 27), .int (m 28), .ref (b 29), .ref (b 30), .int (m 31), .int (m 32), .int (m 33), .int (m 34), .int (m 35), .ref (b 36), .ref (b 37), .int (m 38), .ref (b 39), .ref (b 40), .int (m 41), .int (m 42), .int (m 43), .ref (b 44), .ref (b 45), .ref (b 46), .ref (b 47)])), (b 0, .inl (g 0, 23, .inl (fun i => nI (M i))))]) (y := yX8_roundOfTwo) (wd := wmX8_roundOfTwo) (Qc := fun A => va_Qi (fun (r : Int32) (_ : Unit) => r = nI (zs_lcm (M i) (M j))) (zk_B D g A (fun (_ : Unit) => [(b 100, .inr (8, [.ref (b 0), .ref (b 1), .ref (b 2), .ref (b 3), .int (m 4), .int (m 5), .int (m 6), .int (m 7), .ref (b 8), .int (m 9), .ref (b 10), .int (m 11), .int (m 12), .int (m 13), .int (m 14), .int (m 15), .int (m 16), .ref (b 17), .ref (b 18), .ref (b 19), .ref (b 20), .ref (b 21), .ref (b 22), .ref (b 23), .ref (b 24), .int (m 25), .int (m 26), .int (m 27), .int (m 28), .ref (b 29), .ref (b 30), .int (m 31), .int (m 32), .int (m 33), .int (m 34), .int (m 35), .ref (b 36), .ref (b 37), .int (m 38), .ref (b 39), .ref (b 40), .int (m 41), .int (m 42), .int (m 43), .ref (b 44), .ref (b 45), .ref (b 46), .ref (b 47)])), (b 0, .inl (g 0, 23, .inl (fun i => nI (M i))))])) A) (cc := cX8_roundOfTwo) (maxL := 3) (ret := (some .int)) (own := RX8) (by decide) rfl rfl (Nat.le_of_ble_eq_true rfl) ?_
  intro pP eE sS mM args below meth cC aA ls qQ Z hR_ hlk hnm hK hT hA hQ G hl
  have hinX8 : ∀ w ∈ u_ws RX8 TX8 48, w ∈ wmX8_roundOfTwo := wa8_in
  have e1 : 0 < Nat.gcd (M i) (M j) := Nat.gcd_pos_of_pos_left _ h1
  have e2 : Nat.gcd (M i) (M j) ≤ M i := Nat.gcd_le_left _ h1
  refine lv_aload_n Z.1 Z.2.1 dX8_roundOfTwo_0 rfl (lv_at hl 0 rfl) ?_
  refine zk_get (C := RX8) (T := TX8) (N := 48) (ci := 8) Z hK G hinX8 0 rfl rfl 0 (by decide) (List.mem_cons_of_mem _ wa8_7) rfl (v := .ref (b 0)) rfl dX8_roundOfTwo_1 ?_
  refine lv_iload_n Z.1 Z.2.1 dX8_roundOfTwo_4 rfl (lv_at hl 1 rfl) ?_
  refine zk_iald Z hK G 1 rfl (k := i) (by omega) (by decide) (v := nI (M i)) rfl dX8_roundOfTwo_5 ?_
  refine lv_aload_n Z.1 Z.2.1 dX8_roundOfTwo_6 rfl (lv_at hl 0 rfl) ?_
  refine zk_get (C := RX8) (T := TX8) (N := 48) (ci := 8) Z hK G hinX8 0 rfl rfl 0 (by decide) (List.mem_cons_of_mem _ wa8_7) rfl (v := .ref (b 0)) rfl dX8_roundOfTwo_7 ?_
  refine lv_iload_n Z.1 Z.2.1 dX8_roundOfTwo_10 rfl (lv_at hl 1 rfl) ?_
  refine zk_iald Z hK G 1 rfl (k := i) (by omega) (by decide) (v := nI (M i)) rfl dX8_roundOfTwo_11 ?_
  refine lv_aload_n Z.1 Z.2.1 dX8_roundOfTwo_12 rfl (lv_at hl 0 rfl) ?_
  refine zk_get (C := RX8) (T := TX8) (N := 48) (ci := 8) Z hK G hinX8 0 rfl rfl 0 (by decide) (List.mem_cons_of_mem _ wa8_7) rfl (v := .ref (b 0)) rfl dX8_roundOfTwo_13 ?_
  refine lv_iload_n Z.1 Z.2.1 dX8_roundOfTwo_16 rfl (lv_at hl 2 rfl) ?_
  refine zk_iald Z hK G 1 rfl (k := j) (by omega) (by decide) (v := nI (M j)) rfl dX8_roundOfTwo_17 ?_
  refine zk_ci (WF := fun (_ : Unit) => [(b 100, .inr (8, [.ref (b 0), .ref (b 1), .ref (b 2), .ref (b 3), .int (m 4), .int (m 5), .int (m 6), .int (m 7), .ref (b 8), .int (m 9), .ref (b 10), .int (m 11), .int (m 12), .int (m 13), .int (m 14), .int (m 15), .int (m 16), .ref (b 17), .ref (b 18), .ref (b 19), .ref (b 20), .ref (b 21), .ref (b 22), .ref (b 23), .ref (b 24), .int (m 25), .int (m 26), .int (m 27), .int (m 28), .ref (b 29), .ref (b 30), .int (m 31), .int (m 32), .int (m 33), .int (m 34), .int (m 35), .ref (b 36), .ref (b 37), .int (m 38), .ref (b 39), .ref (b 40), .int (m 41), .int (m 42), .int (m 43), .ref (b 44), .ref (b 45), .ref (b 46), .ref (b 47)])), (b 0, .inl (g 0, 23, .inl (fun i => nI (M i))))]) (wr := [(b 100, .inr (8, [.ref (b 0), .ref (b 1), .ref (b 2), .ref (b 3), .int (m 4), .int (m 5), .int (m 6), .int (m 7), .ref (b 8), .int (m 9), .ref (b 10), .int (m 11), .int (m 12), .int (m 13), .int (m 14), .int (m 15), .int (m 16), .ref (b 17), .ref (b 18), .ref (b 19), .ref (b 20), .ref (b 21), .ref (b 22), .ref (b 23), .ref (b 24), .int (m 25), .int (m 26), .int (m 27), .int (m 28), .ref (b 29), .ref (b 30), .int (m 31), .int (m 32), .int (m 33), .int (m 34), .int (m 35), .ref (b 36), .ref (b 37), .int (m 38), .ref (b 39), .ref (b 40), .int (m 41), .int (m 42), .int (m 43), .ref (b 44), .ref (b 45), .ref (b 46), .ref (b 47)])), (b 0, .inl (g 0, 23, .inl (fun i => nI (M i))))]) ⟨rfl, rfl⟩ (zk_rs (As := [.int (nI (M i)), .int (nI (M j))]) (rest := [.int (nI (M i))]) Z ((ct_X8_common l D g τ (M i) (M j) (by omega) (by omega)) sS.heap.size) hK hT hA G [] rfl (by decide) gmX8_roundOfTwo_X8_common rfl dvX8_common ⟨by decide, by decide⟩ rfl hl.1 rfl (Nat.le_of_ble_eq_true rfl) dX8_roundOfTwo_18 ⟨Nat.zero_le _, Nat.zero_le _⟩) hA G [] [0, 1] [0, 1] rfl rfl (by decide) (by decide) (by decide) (fun _ => rfl) (fun r_18 _ H locs w_18 G => ?_)
  obtain rfl : r_18 = nI (Nat.gcd (M i) (M j)) := w_18
  refine zk_idiv Z dX8_roundOfTwo_21 (nI_ne0 (by omega) (by omega)) (z := nI ((M i) / (Nat.gcd (M i) (M j)))) (pk_div (by omega) (by omega) (by omega)) ?_
  refine lv_aload_n Z.1 Z.2.1 dX8_roundOfTwo_22 rfl (lv_at hl 0 rfl) ?_
  refine zk_get (C := RX8) (T := TX8) (N := 48) (ci := 8) Z hK G hinX8 0 rfl rfl 0 (by decide) (List.mem_cons_of_mem _ wa8_7) rfl (v := .ref (b 0)) rfl dX8_roundOfTwo_23 ?_
  refine lv_iload_n Z.1 Z.2.1 dX8_roundOfTwo_26 rfl (lv_at hl 2 rfl) ?_
  refine zk_iald Z hK G 1 rfl (k := j) (by omega) (by decide) (v := nI (M j)) rfl dX8_roundOfTwo_27 ?_
  refine zk_imul Z dX8_roundOfTwo_28 (z := nI (((M i) / (Nat.gcd (M i) (M j))) * (M j))) (pk_mul _ _) ?_
  exact zk_reti Z hR_ hlk hK hQ G () rfl rfl dX8_roundOfTwo_29

abbrev rm_X8_roundOf : Room := { frames := 1, cells := 0, slots := 0, locals := 24 }
theorem dvX8_roundOf : zk_dv yX8_roundOf RX8 1 := by decide +kernel
theorem gmX8_roundOf_X8_common : GoodIn wmX8_roundOf (va_wsS RX8 156 yX8_common wmX8_common) := goodIn_app (wa8_w (List.forall_mem_cons.mpr ⟨wa8_90, List.forall_mem_cons.mpr ⟨wa8_91, List.forall_mem_cons.mpr ⟨wa8_43, fun _ h => absurd h List.not_mem_nil⟩⟩⟩)) (wa8_sub wa8_92)
set_option maxRecDepth 100000 in
set_option maxHeartbeats 1500000 in
theorem ct_X8_roundOf (l : Launch) (D : va_G) (g : Nat → ClassId) (τ : Nat → Nat) (b : Nat → Nat) (m : Nat → Int32) (M : Nat → Nat) (n : Nat) (hn : n ≤ 7) (hP : ∀ i, i < n → 1 ≤ M i ∧ M i ≤ 12) : zk_MI l D g τ yX8_roundOf wmX8_roundOf rm_X8_roundOf [.ref (b 100), .int (nI n)] [(b 100, .inr (8, [.ref (b 0), .ref (b 1), .ref (b 2), .ref (b 3), .int (m 4), .int (m 5), .int (m 6), .int (m 7), .ref (b 8), .int (m 9), .ref (b 10), .int (m 11), .int (m 12), .int (m 13), .int (m 14), .int (m 15), .int (m 16), .ref (b 17), .ref (b 18), .ref (b 19), .ref (b 20), .ref (b 21), .ref (b 22), .ref (b 23), .ref (b 24), .int (m 25), .int (m 26), .int (m 27), .int (m 28), .ref (b 29), .ref (b 30), .int (m 31), .int (m 32), .int (m 33), .int (m 34), .int (m 35), .ref (b 36), .ref (b 37), .int (m 38), .ref (b 39), .ref (b 40), .int (m 41), .int (m 42), .int (m 43), .ref (b 44), .ref (b 45), .ref (b 46), .ref (b 47)])), (b 0, .inl (g 0, 23, .inl (fun i => nI (M i))))] (fun (r : Int32) (_ : Unit) => r = nI (zs_rnd M n)) (fun (_ : Unit) => [(b 100, .inr (8, [.ref (b 0), .ref (b 1), .ref (b 2), .ref (b 3), .int (m 4), .int (m 5), .int (m 6), .int (m 7), .ref (b 8), .int (m 9), .ref (b 10), .int (m 11), .int (m 12), .int (m 13), .int (m 14), .int (m 15), .int (m 16), .ref (b 17), .ref (b 18), .ref (b 19), .ref (b 20), .ref (b 21), .ref (b 22), .ref (b 23), .ref (b 24), .int (m 25), .int (m 26), .int (m 27), .int (m 28), .ref (b 29), .ref (b 30), .int (m 31), .int (m 32), .int (m 33), .int (m 34), .int (m 35), .ref (b 36), .ref (b 37), .int (m 38), .ref (b 39), .ref (b 40), .int (m 41), .int (m 42), .int (m 43), .ref (b 44), .ref (b 45), .ref (b 46), .ref (b 47)])), (b 0, .inl (g 0, 23, .inl (fun i => nI (M i))))]) := by
  refine zk_of (av := [.ref (b 100), .int (nI n)]) (W0 := [(b 100, .inr (8, [.ref (b 0), .ref (b 1), .ref (b 2), .ref (b 3), .int (m 4), .int (m 5), .int (m 6), .int (m 7), .ref (b 8), .int (m 9), .ref (b 10), .int (m 11), .int (m 12), .int (m 13), .int (m 14), .int (m 15), .int (m 16), .ref (b 17), .ref (b 18), .ref (b 19), .ref (b 20), .ref (b 21), .ref (b 22), .ref (b 23), .ref (b 24), .int (m 25), .int (m 26), .int (m 27), .int (m 28), .ref (b 29), .ref (b 30), .int (m 31), .int (m 32), .int (m 33), .int (m 34), .int (m 35), .ref (b 36), .ref (b 37), .int (m 38), .ref (b 39), .ref (b 40), .int (m 41), .int (m 42), .int (m 43), .ref (b 44), .ref (b 45), .ref (b 46), .ref (b 47)])), (b 0, .inl (g 0, 23, .inl (fun i => nI (M i))))]) (y := yX8_roundOf) (wd := wmX8_roundOf) (Qc := fun A => va_Qi (fun (r : Int32) (_ : Unit) => r = nI (zs_rnd M n)) (zk_B D g A (fun (_ : Unit) => [(b 100, .inr (8, [.ref (b 0), .ref (b 1), .ref (b 2), .ref (b 3), .int (m 4), .int (m 5), .int (m 6), .int (m 7), .ref (b 8), .int (m 9), .ref (b 10), .int (m 11), .int (m 12), .int (m 13), .int (m 14), .int (m 15), .int (m 16), .ref (b 17), .ref (b 18), .ref (b 19), .ref (b 20), .ref (b 21), .ref (b 22), .ref (b 23), .ref (b 24), .int (m 25), .int (m 26), .int (m 27), .int (m 28), .ref (b 29), .ref (b 30), .int (m 31), .int (m 32), .int (m 33), .int (m 34), .int (m 35), .ref (b 36), .ref (b 37), .int (m 38), .ref (b 39), .ref (b 40), .int (m 41), .int (m 42), .int (m 43), .ref (b 44), .ref (b 45), .ref (b 46), .ref (b 47)])), (b 0, .inl (g 0, 23, .inl (fun i => nI (M i))))])) A) (cc := cX8_roundOf) (maxL := 4) (ret := (some .int)) (own := RX8) (by decide) rfl rfl (Nat.le_of_ble_eq_true rfl) ?_
  intro pP eE sS mM args below meth cC aA ls qQ Z hR_ hlk hnm hK hT hA hQ G hl
  have hinX8 : ∀ w ∈ u_ws RX8 TX8 48, w ∈ wmX8_roundOf := wa8_in
  refine lv_iconst (v := nI 1) Z.1 Z.2.1 dX8_roundOf_0 (by decide +kernel) ?_
  refine lv_istore_n (lv' := [(2, .int (nI 1)), (0, .ref (b 100)), (1, .int (nI n))]) Z.1 Z.2.1 dX8_roundOf_1 rfl hl (by decide) rfl (fun ls hl => ?_)
  refine lv_iconst (v := nI 0) Z.1 Z.2.1 dX8_roundOf_2 (by decide +kernel) ?_
  refine lv_istore_n (lv' := [(3, .int (nI 0)), (2, .int (nI 1)), (0, .ref (b 100)), (1, .int (nI n))]) Z.1 Z.2.1 dX8_roundOf_3 rfl hl (by decide) rfl (fun ls hl => ?_)
  have L4 : ∀ (nN : Nat) (w : Nat), n - w < nN → (w ≤ n) → ∀ (H : Heap) (locs : List Loc) (ls : Array Slot), zk_G D aA [(b 100, .inr (8, [.ref (b 0), .ref (b 1), .ref (b 2), .ref (b 3), .int (m 4), .int (m 5), .int (m 6), .int (m 7), .ref (b 8), .int (m 9), .ref (b 10), .int (m 11), .int (m 12), .int (m 13), .int (m 14), .int (m 15), .int (m 16), .ref (b 17), .ref (b 18), .ref (b 19), .ref (b 20), .ref (b 21), .ref (b 22), .ref (b 23), .ref (b 24), .int (m 25), .int (m 26), .int (m 27), .int (m 28), .ref (b 29), .ref (b 30), .int (m 31), .int (m 32), .int (m 33), .int (m 34), .int (m 35), .ref (b 36), .ref (b 37), .int (m 38), .ref (b 39), .ref (b 40), .int (m 41), .int (m 42), .int (m 43), .ref (b 44), .ref (b 45), .ref (b 46), .ref (b 47)])), (b 0, .inl (g 0, 23, .inl (fun i => nI (M i))))] sS H locs → lv_has ls 4 [(0, .ref (b 100)), (1, .int (nI n)), (2, .int (nI (zs_rnd M w))), (3, .int (nI w))] → W pP l eE rm_X8_roundOf sS mM args below meth cC H locs 0 0 qQ (F0 mM 4 ls []) := by
    intro nN
    induction nN with
    | zero => intros; omega
    | succ nN ih4 =>
      intro w hμ h1 H locs ls G hl
      have hr := zs_rnd_in (P := M) (n := w) (fun i hi => hP i (by omega))
      refine lv_iload_n Z.1 Z.2.1 dX8_roundOf_4 rfl (lv_at hl 3 rfl) ?_
      refine lv_iload_n Z.1 Z.2.1 dX8_roundOf_5 rfl (lv_at hl 1 rfl) ?_
      refine lv_icmp_ge (tgt := 35) Z.1 Z.2.1 dX8_roundOf_6 (by decide) (fun c6 => ?_) (fun c6 => ?_)
      · have c6 : n ≤ w := zk_le (by omega) (by omega) c6
        refine lv_iload_n Z.1 Z.2.1 dX8_roundOf_35 rfl (lv_at hl 2 rfl) ?_
        exact zk_reti Z hR_ hlk hK hQ G () (by rw [show w = n by omega]) rfl dX8_roundOf_36
      have c6 : w < n := zk_nle (by omega) (by omega) c6
      have hq := hP w c6
      have e1 : 0 < Nat.gcd (zs_rnd M w) (M w) := Nat.gcd_pos_of_pos_left _ hr.1
      have e2 : Nat.gcd (zs_rnd M w) (M w) ≤ zs_rnd M w := Nat.gcd_le_left _ hr.1
      refine lv_iload_n Z.1 Z.2.1 dX8_roundOf_9 rfl (lv_at hl 2 rfl) ?_
      refine lv_iload_n Z.1 Z.2.1 dX8_roundOf_10 rfl (lv_at hl 2 rfl) ?_
      refine lv_aload_n Z.1 Z.2.1 dX8_roundOf_11 rfl (lv_at hl 0 rfl) ?_
      refine zk_get (C := RX8) (T := TX8) (N := 48) (ci := 8) Z hK G hinX8 0 rfl rfl 0 (by decide) (List.mem_cons_of_mem _ wa8_7) rfl (v := .ref (b 0)) rfl dX8_roundOf_12 ?_
      refine lv_iload_n Z.1 Z.2.1 dX8_roundOf_15 rfl (lv_at hl 3 rfl) ?_
      refine zk_iald Z hK G 1 rfl (k := w) (by omega) (by decide) (v := nI (M w)) rfl dX8_roundOf_16 ?_
      refine zk_ci (WF := fun (_ : Unit) => [(b 100, .inr (8, [.ref (b 0), .ref (b 1), .ref (b 2), .ref (b 3), .int (m 4), .int (m 5), .int (m 6), .int (m 7), .ref (b 8), .int (m 9), .ref (b 10), .int (m 11), .int (m 12), .int (m 13), .int (m 14), .int (m 15), .int (m 16), .ref (b 17), .ref (b 18), .ref (b 19), .ref (b 20), .ref (b 21), .ref (b 22), .ref (b 23), .ref (b 24), .int (m 25), .int (m 26), .int (m 27), .int (m 28), .ref (b 29), .ref (b 30), .int (m 31), .int (m 32), .int (m 33), .int (m 34), .int (m 35), .ref (b 36), .ref (b 37), .int (m 38), .ref (b 39), .ref (b 40), .int (m 41), .int (m 42), .int (m 43), .ref (b 44), .ref (b 45), .ref (b 46), .ref (b 47)])), (b 0, .inl (g 0, 23, .inl (fun i => nI (M i))))]) (wr := [(b 100, .inr (8, [.ref (b 0), .ref (b 1), .ref (b 2), .ref (b 3), .int (m 4), .int (m 5), .int (m 6), .int (m 7), .ref (b 8), .int (m 9), .ref (b 10), .int (m 11), .int (m 12), .int (m 13), .int (m 14), .int (m 15), .int (m 16), .ref (b 17), .ref (b 18), .ref (b 19), .ref (b 20), .ref (b 21), .ref (b 22), .ref (b 23), .ref (b 24), .int (m 25), .int (m 26), .int (m 27), .int (m 28), .ref (b 29), .ref (b 30), .int (m 31), .int (m 32), .int (m 33), .int (m 34), .int (m 35), .ref (b 36), .ref (b 37), .int (m 38), .ref (b 39), .ref (b 40), .int (m 41), .int (m 42), .int (m 43), .ref (b 44), .ref (b 45), .ref (b 46), .ref (b 47)])), (b 0, .inl (g 0, 23, .inl (fun i => nI (M i))))]) ⟨rfl, rfl⟩ (zk_rs (As := [.int (nI (zs_rnd M w)), .int (nI (M w))]) (rest := [.int (nI (zs_rnd M w))]) Z ((ct_X8_common l D g τ (zs_rnd M w) (M w) (by omega) (by omega)) H.size) hK hT hA G [] rfl (by decide) gmX8_roundOf_X8_common rfl dvX8_common ⟨by decide, by decide⟩ rfl hl.1 rfl (Nat.le_of_ble_eq_true rfl) dX8_roundOf_17 ⟨Nat.zero_le _, Nat.zero_le _⟩) hA G [] [0, 1] [0, 1] rfl rfl (by decide) (by decide) (by decide) (fun _ => rfl) (fun r_17 _ H locs w_17 G => ?_)
      obtain rfl : r_17 = nI (Nat.gcd (zs_rnd M w) (M w)) := w_17
      refine zk_idiv Z dX8_roundOf_20 (nI_ne0 (by omega) (by omega)) (z := nI ((zs_rnd M w) / (Nat.gcd (zs_rnd M w) (M w)))) (pk_div (by omega) (by omega) (by omega)) ?_
      refine lv_aload_n Z.1 Z.2.1 dX8_roundOf_21 rfl (lv_at hl 0 rfl) ?_
      refine zk_get (C := RX8) (T := TX8) (N := 48) (ci := 8) Z hK G hinX8 0 rfl rfl 0 (by decide) (List.mem_cons_of_mem _ wa8_7) rfl (v := .ref (b 0)) rfl dX8_roundOf_22 ?_
      refine lv_iload_n Z.1 Z.2.1 dX8_roundOf_25 rfl (lv_at hl 3 rfl) ?_
      refine zk_iald Z hK G 1 rfl (k := w) (by omega) (by decide) (v := nI (M w)) rfl dX8_roundOf_26 ?_
      refine zk_imul Z dX8_roundOf_27 (z := nI (((zs_rnd M w) / (Nat.gcd (zs_rnd M w) (M w))) * (M w))) (pk_mul _ _) ?_
      refine lv_istore_n (lv' := [(2, .int (nI (((zs_rnd M w) / (Nat.gcd (zs_rnd M w) (M w))) * (M w)))), (0, .ref (b 100)), (1, .int (nI n)), (3, .int (nI w))]) Z.1 Z.2.1 dX8_roundOf_28 rfl hl (by decide) rfl (fun ls hl => ?_)
      refine lv_iinc (v := nI (w + 1)) (lv' := [(3, .int (nI (w + 1))), (2, .int (nI (((zs_rnd M w) / (Nat.gcd (zs_rnd M w) (M w))) * (M w)))), (0, .ref (b 100)), (1, .int (nI n))]) Z.1 Z.2.1 dX8_roundOf_29 hl (k := 3) rfl (zk_inc w 1) (by decide) rfl (fun ls hl => ?_)
      refine lv_goto (tgt := 4) Z.1 Z.2.1 dX8_roundOf_32 (by decide) ?_
      exact ih4 (w + 1) (by omega) (by omega) _ _ _ G (lv_sub hl [2, 3, 1, 0] rfl)
  exact L4 _ 0 (Nat.lt_succ_self _) (by omega) _ _ _ G (lv_sub hl [2, 3, 1, 0] rfl)
