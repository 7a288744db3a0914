/-! Chance, and what is asked of one thing. -/
theorem zn_u (z : Int32) : z = nI z.toUInt32.toNat := by
  apply Int32.toBitVec_inj.1
  show z.toBitVec = BitVec.ofNat 32 z.toBitVec.toNat
  simp
theorem zn_ush (z : Int32) : (z.toUInt32 >>> ((nI 8).toUInt32 &&& Int32.toUInt32 31)).toInt32 = nI (z.toUInt32.toNat / 256) := by
  have h := zw_ush (n := z.toUInt32.toNat) (k := 8) z.toUInt32.toNat_lt (by decide)
  rw [← zn_u] at h
  exact h
def zn_next (chance : Int32) : Int32 := chance * nI 1103515245 + nI 12345
def zn_draw (chance : Int32) (b : Nat) : Nat := (zn_next chance).toUInt32.toNat / 256 % b
def zu_ofWd (P S Q : Nat → Nat) (hide storm now : Nat) (Ld : Nat → Nat) (i : Nat) (what : Int32) : Int32 :=
  if what = nI 0 then zu_told P S Q hide storm i (nI 0) else if what = nI 1 then zu_told P S Q hide storm i (nI 1) else if what = nI 2 then zu_told P S Q hide storm i (nI 2)
  else if what = nI 3 then nI (zs_at P S i now) else if what = nI 4 then nI (Ld i) else (-1)

abbrev rm_X7_draw : Room := { frames := 1, cells := 0, slots := 0, locals := 21 }
theorem dvX7_draw : zk_dv yX7_draw RX7 1 := by decide +kernel
set_option maxRecDepth 100000 in
set_option maxHeartbeats 4000000 in
theorem ct_X7_draw (l : Launch) (D : va_G) (g : Nat → ClassId) (τ : Nat → Nat) (a : Nat → Nat) (pic : Bool) (storm : Nat) (chance : Int32) (b9 : Nat) (hb : 1 ≤ b9) (hb2 : b9 < 2 ^ 31) : zk_MI l D g τ yX7_draw wsX7_draw rm_X7_draw [.ref (a 0), .int (nI b9)] [(a 0, .inr (7, [.ref (a 1), .ref (a 2), .ref (a 3), .ref (a 4), .ref (a 50), .ref (a 60), .ref (a 7), .ref (a 8), .int (zk_b pic), .int (nI storm), .int chance]))] (fun (r : Int32) (_ : Unit) => r = nI (zn_draw chance b9)) (fun (_ : Unit) => [(a 0, .inr (7, [.ref (a 1), .ref (a 2), .ref (a 3), .ref (a 4), .ref (a 50), .ref (a 60), .ref (a 7), .ref (a 8), .int (zk_b pic), .int (nI storm), .int ((zn_next chance))]))]) := by
  refine zk_of (Qc := fun A => va_Qi (fun (r : Int32) (_ : Unit) => r = nI (zn_draw chance b9)) (zk_B D g A (fun (_ : Unit) => [(a 0, .inr (7, [.ref (a 1), .ref (a 2), .ref (a 3), .ref (a 4), .ref (a 50), .ref (a 60), .ref (a 7), .ref (a 8), .int (zk_b pic), .int (nI storm), .int ((zn_next chance))]))])) A) (cc := cX7_draw) (maxL := 2) (ret := (some .int)) (own := RX7) (by decide) rfl rfl (Nat.le_of_ble_eq_true rfl) ?_
  intro pP eE sS mM args below meth cC aA ls qQ Z hR_ hlk hnm hK hT hA hQ G hl
  have hinX7 : ∀ w ∈ u_ws RX7 TX7 11, w ∈ wsX7_draw := (fun _ h => List.mem_cons_of_mem _ (List.mem_append_right _ h))
  refine lv_aload_n Z.1 Z.2.1 dX7_draw_0 rfl (lv_at hl 0 rfl) ?_
  refine lv_aload_n Z.1 Z.2.1 dX7_draw_1 rfl (lv_at hl 0 rfl) ?_
  refine zk_get (C := RX7) (T := TX7) (N := 11) (ci := 7) Z hK G hinX7 0 rfl rfl 10 (by decide) (List.mem_of_getElem? (i := 1) rfl) rfl (v := .int chance) rfl dX7_draw_2 ?_
  refine lv_ldcw (v := nI 1103515245) Z.1 Z.2.1 Z.2.2.2.1 (Z.2.2.2.2 _ (List.mem_of_getElem? (i := 2) rfl)) dX7_draw_5 ?_
  refine zk_imul Z dX7_draw_8 (z := chance * (nI 1103515245)) rfl ?_
  refine lv_sipush (v := nI 12345) Z.1 Z.2.1 dX7_draw_9 (by decide +kernel) ?_
  refine zk_iadd Z dX7_draw_12 (z := (chance * (nI 1103515245)) + (nI 12345)) rfl ?_
  refine zk_put tyX7 tyX7_ok nmX7 (C := RX7) (T := TX7) (N := 11) (ci := 7) Z hK G hinX7 0 rfl rfl 10 (by decide) (List.mem_of_getElem? (i := 1) rfl) rfl rfl rfl rfl (Nat.le_of_ble_eq_true rfl) (ws' := [(a 0, .inr (7, [.ref (a 1), .ref (a 2), .ref (a 3), .ref (a 4), .ref (a 50), .ref (a 60), .ref (a 7), .ref (a 8), .int (zk_b pic), .int (nI storm), .int ((chance * (nI 1103515245)) + (nI 12345))]))]) rfl dX7_draw_13 (fun H locs G => ?_)
  have G : zk_G D aA [(a 0, .inr (7, [.ref (a 1), .ref (a 2), .ref (a 3), .ref (a 4), .ref (a 50), .ref (a 60), .ref (a 7), .ref (a 8), .int (zk_b pic), .int (nI storm), .int (zn_next chance)]))] sS H locs := G
  refine lv_aload_n Z.1 Z.2.1 dX7_draw_16 rfl (lv_at hl 0 rfl) ?_
  refine zk_get (C := RX7) (T := TX7) (N := 11) (ci := 7) Z hK G hinX7 0 rfl rfl 10 (by decide) (List.mem_of_getElem? (i := 1) rfl) rfl (v := .int (zn_next chance)) rfl dX7_draw_17 ?_
  refine lv_bipush (v := nI 8) Z.1 Z.2.1 dX7_draw_20 (by decide +kernel) ?_
  refine lv_iushr (v := nI ((zn_next chance).toUInt32.toNat / 256)) Z.1 Z.2.1 dX7_draw_22 (zn_ush _) ?_
  refine lv_iload_n Z.1 Z.2.1 dX7_draw_23 rfl (lv_at hl 1 rfl) ?_
  refine zk_ci (WF := fun (_ : Unit) => [(a 0, .inr (7, [.ref (a 1), .ref (a 2), .ref (a 3), .ref (a 4), .ref (a 50), .ref (a 60), .ref (a 7), .ref (a 8), .int (zk_b pic), .int (nI storm), .int (zn_next chance)]))]) (wr := [(a 0, .inr (7, [.ref (a 1), .ref (a 2), .ref (a 3), .ref (a 4), .ref (a 50), .ref (a 60), .ref (a 7), .ref (a 8), .int (zk_b pic), .int (nI storm), .int (zn_next chance)]))]) ⟨rfl, rfl⟩ (zk_rs (As := [.int (nI ((zn_next chance).toUInt32.toNat / 256)), .int (nI b9)]) (rest := []) Z ((ct_X7_left l D g τ ((zn_next chance).toUInt32.toNat / 256) b9 (by omega) (by omega) (by have h9 := (zn_next chance).toUInt32.toNat_lt; omega)) H.size) hK hT hA G [] rfl (by decide) gX7_draw_X7_left rfl dvX7_left ⟨by decide, by decide⟩ rfl hl.1 rfl (Nat.le_of_ble_eq_true rfl) dX7_draw_24 ⟨Nat.zero_le _, Nat.zero_le _⟩) hA G [] [0] [0] rfl rfl (by decide) (by decide) (by decide) (fun _ => rfl) (fun r_24 _ H locs w_24 G => ?_)
  obtain rfl : r_24 = nI (((zn_next chance).toUInt32.toNat / 256) % b9) := w_24
  exact zk_reti Z hR_ hlk hK hQ G () rfl rfl dX7_draw_27

abbrev rm_X7_ofWorld : Room := { frames := 3, cells := 0, slots := 0, locals := 65 }
theorem dvX7_ofWorld : zk_dv yX7_ofWorld RX7 2 := by decide +kernel
set_option maxRecDepth 100000 in
set_option maxHeartbeats 4000000 in
theorem ct_X7_ofWorld (l : Launch) (D : va_G) (g : Nat → ClassId) (τ : Nat → Nat) (a : Nat → Nat) (pic : Bool) (storm : Nat) (chance : Int32) (n : Nat) (hide : Nat) (ver : Nat) (ew : Int32) (ek : Bool) (P : Nat → Nat) (S : Nat → Nat) (Q : Nat → Nat) (us : Nat) (ut : Nat) (uh : Nat) (ua : Nat) (ul : Nat) (nw : Nat) (m1 : Nat) (Ld : Nat → Nat) (y : Nat) (what : Int32) (hi : y < n) (hn6 : n ≤ 6) (hW : zs_W n P S) (hnw : nw < 2 ^ 30) : zk_MI l D g τ yX7_ofWorld wsX7_ofWorld rm_X7_ofWorld [.ref (a 0), .int (nI y), .int what] [(a 0, .inr (7, [.ref (a 1), .ref (a 2), .ref (a 3), .ref (a 4), .ref (a 50), .ref (a 60), .ref (a 7), .ref (a 8), .int (zk_b pic), .int (nI storm), .int chance])), (a 2, .inr (5, [.ref (a 20), .ref (a 21), .ref (a 22), .int (nI n), .int (nI hide), .ref (a 1), .ref (a 23), .ref (a 24), .int (nI ver), .int ew, .int (zk_b ek)])), (a 20, .inl (g 0, 7, .inl (fun i => nI (P i)))), (a 21, .inl (g 0, 7, .inl (fun i => nI (S i)))), (a 22, .inl (g 0, 7, .inl (fun i => nI (Q i)))), (a 50, .inr (1, [.int (nI nw), .int (nI m1), .ref us, .ref ut, .ref uh, .ref ua, .ref ul])), (ul, .inl (g 0, 6, .inl (fun i => nI (Ld i))))] (fun (r : Int32) (_ : Unit) => r = zu_ofWd P S Q hide storm nw Ld y what) (fun (_ : Unit) => [(a 0, .inr (7, [.ref (a 1), .ref (a 2), .ref (a 3), .ref (a 4), .ref (a 50), .ref (a 60), .ref (a 7), .ref (a 8), .int (zk_b pic), .int (nI storm), .int chance])), (a 2, .inr (5, [.ref (a 20), .ref (a 21), .ref (a 22), .int (nI n), .int (nI hide), .ref (a 1), .ref (a 23), .ref (a 24), .int (nI ver), .int ew, .int (zk_b ek)])), (a 20, .inl (g 0, 7, .inl (fun i => nI (P i)))), (a 21, .inl (g 0, 7, .inl (fun i => nI (S i)))), (a 22, .inl (g 0, 7, .inl (fun i => nI (Q i)))), (a 50, .inr (1, [.int (nI nw), .int (nI m1), .ref us, .ref ut, .ref uh, .ref ua, .ref ul])), (ul, .inl (g 0, 6, .inl (fun i => nI (Ld i))))]) := by
  refine zk_of (Qc := fun A => va_Qi (fun (r : Int32) (_ : Unit) => r = zu_ofWd P S Q hide storm nw Ld y what) (zk_B D g A (fun (_ : Unit) => [(a 0, .inr (7, [.ref (a 1), .ref (a 2), .ref (a 3), .ref (a 4), .ref (a 50), .ref (a 60), .ref (a 7), .ref (a 8), .int (zk_b pic), .int (nI storm), .int chance])), (a 2, .inr (5, [.ref (a 20), .ref (a 21), .ref (a 22), .int (nI n), .int (nI hide), .ref (a 1), .ref (a 23), .ref (a 24), .int (nI ver), .int ew, .int (zk_b ek)])), (a 20, .inl (g 0, 7, .inl (fun i => nI (P i)))), (a 21, .inl (g 0, 7, .inl (fun i => nI (S i)))), (a 22, .inl (g 0, 7, .inl (fun i => nI (Q i)))), (a 50, .inr (1, [.int (nI nw), .int (nI m1), .ref us, .ref ut, .ref uh, .ref ua, .ref ul])), (ul, .inl (g 0, 6, .inl (fun i => nI (Ld i))))])) A) (cc := cX7_ofWorld) (maxL := 3) (ret := (some .int)) (own := RX7) (by decide) rfl rfl (Nat.le_of_ble_eq_true rfl) ?_
  intro pP eE sS mM args below meth cC aA ls qQ Z hR_ hlk hnm hK hT hA hQ G hl
  have hinX1 : ∀ w ∈ u_ws RX1 TX1 7, w ∈ wsX7_ofWorld := (fun _ h => List.mem_cons_of_mem _ (List.mem_append_left _ (List.mem_append_right _ h)))
  have hinX7 : ∀ w ∈ u_ws RX7 TX7 11, w ∈ wsX7_ofWorld := (fun _ h => List.mem_cons_of_mem _ (List.mem_append_left _ (List.mem_append_left _ (List.mem_append_right _ h))))
  have w9 := hW.2 y hi
  refine lv_iload_n Z.1 Z.2.1 dX7_ofWorld_0 rfl (lv_at hl 2 rfl) ?_
  by_cases c1_0 : what = nI 0
  · subst c1_0
    refine lv_tableIn (tgt := 36) Z.1 Z.2.1 dX7_ofWorld_1 (by decide) (by decide) (by rfl) (by decide) ?_
    refine lv_aload_n Z.1 Z.2.1 dX7_ofWorld_36 rfl (lv_at hl 0 rfl) ?_
    refine lv_iload_n Z.1 Z.2.1 dX7_ofWorld_37 rfl (lv_at hl 1 rfl) ?_
    refine lv_iload_n Z.1 Z.2.1 dX7_ofWorld_38 rfl (lv_at hl 2 rfl) ?_
    refine zk_ci (WF := fun (_ : Unit) => [(a 0, .inr (7, [.ref (a 1), .ref (a 2), .ref (a 3), .ref (a 4), .ref (a 50), .ref (a 60), .ref (a 7), .ref (a 8), .int (zk_b pic), .int (nI storm), .int chance])), (a 2, .inr (5, [.ref (a 20), .ref (a 21), .ref (a 22), .int (nI n), .int (nI hide), .ref (a 1), .ref (a 23), .ref (a 24), .int (nI ver), .int ew, .int (zk_b ek)])), (a 20, .inl (g 0, 7, .inl (fun i => nI (P i)))), (a 21, .inl (g 0, 7, .inl (fun i => nI (S i)))), (a 22, .inl (g 0, 7, .inl (fun i => nI (Q i)))), (a 50, .inr (1, [.int (nI nw), .int (nI m1), .ref us, .ref ut, .ref uh, .ref ua, .ref ul])), (ul, .inl (g 0, 6, .inl (fun i => nI (Ld i))))]) (wr := [(a 50, .inr (1, [.int (nI nw), .int (nI m1), .ref us, .ref ut, .ref uh, .ref ua, .ref ul])), (ul, .inl (g 0, 6, .inl (fun i => nI (Ld i))))]) ⟨rfl, rfl⟩ (zk_rv (As := [.int (nI y), .int (nI 0)]) (rest := []) (q0 := 0) (ci := 7) Z ((ct_X7_told l D g τ a pic storm chance n hide ver ew ek P S Q y (nI 0) (by omega)) sS.heap.size) hK hT hA G [0, 1, 2, 3, 4] rfl (by decide) rfl rfl gX7_ofWorld_X7_told rfl dvX7_told ⟨by decide, by decide⟩ rfl hl.1 rfl (Nat.le_of_ble_eq_true rfl) dX7_ofWorld_39 ⟨Nat.zero_le _, Nat.zero_le _⟩) hA G [0, 1, 2, 3, 4] [5, 6] [2, 3, 4, 5, 6, 0, 1] rfl rfl (by decide) (by decide) (by decide) (fun _ => rfl) (fun r_39 _ H locs w_39 G => ?_)
    obtain rfl : r_39 = zu_told P S Q hide storm y (nI 0) := w_39
    exact zk_reti Z hR_ hlk hK hQ G () (by unfold zu_ofWd; rw [if_pos rfl]) rfl dX7_ofWorld_42
  by_cases c1_1 : what = nI 1
  · subst c1_1
    refine lv_tableIn (tgt := 36) Z.1 Z.2.1 dX7_ofWorld_1 (by decide) (by decide) (by rfl) (by decide) ?_
    refine lv_aload_n Z.1 Z.2.1 dX7_ofWorld_36 rfl (lv_at hl 0 rfl) ?_
    refine lv_iload_n Z.1 Z.2.1 dX7_ofWorld_37 rfl (lv_at hl 1 rfl) ?_
    refine lv_iload_n Z.1 Z.2.1 dX7_ofWorld_38 rfl (lv_at hl 2 rfl) ?_
    refine zk_ci (WF := fun (_ : Unit) => [(a 0, .inr (7, [.ref (a 1), .ref (a 2), .ref (a 3), .ref (a 4), .ref (a 50), .ref (a 60), .ref (a 7), .ref (a 8), .int (zk_b pic), .int (nI storm), .int chance])), (a 2, .inr (5, [.ref (a 20), .ref (a 21), .ref (a 22), .int (nI n), .int (nI hide), .ref (a 1), .ref (a 23), .ref (a 24), .int (nI ver), .int ew, .int (zk_b ek)])), (a 20, .inl (g 0, 7, .inl (fun i => nI (P i)))), (a 21, .inl (g 0, 7, .inl (fun i => nI (S i)))), (a 22, .inl (g 0, 7, .inl (fun i => nI (Q i)))), (a 50, .inr (1, [.int (nI nw), .int (nI m1), .ref us, .ref ut, .ref uh, .ref ua, .ref ul])), (ul, .inl (g 0, 6, .inl (fun i => nI (Ld i))))]) (wr := [(a 50, .inr (1, [.int (nI nw), .int (nI m1), .ref us, .ref ut, .ref uh, .ref ua, .ref ul])), (ul, .inl (g 0, 6, .inl (fun i => nI (Ld i))))]) ⟨rfl, rfl⟩ (zk_rv (As := [.int (nI y), .int (nI 1)]) (rest := []) (q0 := 0) (ci := 7) Z ((ct_X7_told l D g τ a pic storm chance n hide ver ew ek P S Q y (nI 1) (by omega)) sS.heap.size) hK hT hA G [0, 1, 2, 3, 4] rfl (by decide) rfl rfl gX7_ofWorld_X7_told rfl dvX7_told ⟨by decide, by decide⟩ rfl hl.1 rfl (Nat.le_of_ble_eq_true rfl) dX7_ofWorld_39 ⟨Nat.zero_le _, Nat.zero_le _⟩) hA G [0, 1, 2, 3, 4] [5, 6] [2, 3, 4, 5, 6, 0, 1] rfl rfl (by decide) (by decide) (by decide) (fun _ => rfl) (fun r_39 _ H locs w_39 G => ?_)
    obtain rfl : r_39 = zu_told P S Q hide storm y (nI 1) := w_39
    exact zk_reti Z hR_ hlk hK hQ G () (by unfold zu_ofWd; rw [if_neg (by decide), if_pos rfl]) rfl dX7_ofWorld_42
  by_cases c1_2 : what = nI 2
  · subst c1_2
    refine lv_tableIn (tgt := 36) Z.1 Z.2.1 dX7_ofWorld_1 (by decide) (by decide) (by rfl) (by decide) ?_
    refine lv_aload_n Z.1 Z.2.1 dX7_ofWorld_36 rfl (lv_at hl 0 rfl) ?_
    refine lv_iload_n Z.1 Z.2.1 dX7_ofWorld_37 rfl (lv_at hl 1 rfl) ?_
    refine lv_iload_n Z.1 Z.2.1 dX7_ofWorld_38 rfl (lv_at hl 2 rfl) ?_
    refine zk_ci (WF := fun (_ : Unit) => [(a 0, .inr (7, [.ref (a 1), .ref (a 2), .ref (a 3), .ref (a 4), .ref (a 50), .ref (a 60), .ref (a 7), .ref (a 8), .int (zk_b pic), .int (nI storm), .int chance])), (a 2, .inr (5, [.ref (a 20), .ref (a 21), .ref (a 22), .int (nI n), .int (nI hide), .ref (a 1), .ref (a 23), .ref (a 24), .int (nI ver), .int ew, .int (zk_b ek)])), (a 20, .inl (g 0, 7, .inl (fun i => nI (P i)))), (a 21, .inl (g 0, 7, .inl (fun i => nI (S i)))), (a 22, .inl (g 0, 7, .inl (fun i => nI (Q i)))), (a 50, .inr (1, [.int (nI nw), .int (nI m1), .ref us, .ref ut, .ref uh, .ref ua, .ref ul])), (ul, .inl (g 0, 6, .inl (fun i => nI (Ld i))))]) (wr := [(a 50, .inr (1, [.int (nI nw), .int (nI m1), .ref us, .ref ut, .ref uh, .ref ua, .ref ul])), (ul, .inl (g 0, 6, .inl (fun i => nI (Ld i))))]) ⟨rfl, rfl⟩ (zk_rv (As := [.int (nI y), .int (nI 2)]) (rest := []) (q0 := 0) (ci := 7) Z ((ct_X7_told l D g τ a pic storm chance n hide ver ew ek P S Q y (nI 2) (by omega)) sS.heap.size) hK hT hA G [0, 1, 2, 3, 4] rfl (by decide) rfl rfl gX7_ofWorld_X7_told rfl dvX7_told ⟨by decide, by decide⟩ rfl hl.1 rfl (Nat.le_of_ble_eq_true rfl) dX7_ofWorld_39 ⟨Nat.zero_le _, Nat.zero_le _⟩) hA G [0, 1, 2, 3, 4] [5, 6] [2, 3, 4, 5, 6, 0, 1] rfl rfl (by decide) (by decide) (by decide) (fun _ => rfl) (fun r_39 _ H locs w_39 G => ?_)
    obtain rfl : r_39 = zu_told P S Q hide storm y (nI 2) := w_39
    exact zk_reti Z hR_ hlk hK hQ G () (by unfold zu_ofWd; rw [if_neg (by decide), if_neg (by decide), if_pos rfl]) rfl dX7_ofWorld_42
  by_cases c1_3 : what = nI 3
  · subst c1_3
    refine lv_tableIn (tgt := 43) Z.1 Z.2.1 dX7_ofWorld_1 (by decide) (by decide) (by rfl) (by decide) ?_
    refine lv_aload_n Z.1 Z.2.1 dX7_ofWorld_43 rfl (lv_at hl 0 rfl) ?_
    refine zk_get (C := RX7) (T := TX7) (N := 11) (ci := 7) Z hK G hinX7 0 rfl rfl 1 (by decide) (List.mem_of_getElem? (i := 1) rfl) rfl (v := .ref (a 2)) rfl dX7_ofWorld_44 ?_
    refine lv_iload_n Z.1 Z.2.1 dX7_ofWorld_47 rfl (lv_at hl 1 rfl) ?_
    refine lv_aload_n Z.1 Z.2.1 dX7_ofWorld_48 rfl (lv_at hl 0 rfl) ?_
    refine zk_get (C := RX7) (T := TX7) (N := 11) (ci := 7) Z hK G hinX7 0 rfl rfl 4 (by decide) (List.mem_of_getElem? (i := 2) rfl) rfl (v := .ref (a 50)) rfl dX7_ofWorld_49 ?_
    refine zk_get (C := RX1) (T := TX1) (N := 7) (ci := 1) Z hK G hinX1 5 rfl rfl 0 (by decide) (List.mem_of_getElem? (i := 3) rfl) rfl (v := .int (nI nw)) rfl dX7_ofWorld_52 ?_
    refine zk_ci (WF := fun (_ : Unit) => [(a 0, .inr (7, [.ref (a 1), .ref (a 2), .ref (a 3), .ref (a 4), .ref (a 50), .ref (a 60), .ref (a 7), .ref (a 8), .int (zk_b pic), .int (nI storm), .int chance])), (a 2, .inr (5, [.ref (a 20), .ref (a 21), .ref (a 22), .int (nI n), .int (nI hide), .ref (a 1), .ref (a 23), .ref (a 24), .int (nI ver), .int ew, .int (zk_b ek)])), (a 20, .inl (g 0, 7, .inl (fun i => nI (P i)))), (a 21, .inl (g 0, 7, .inl (fun i => nI (S i)))), (a 22, .inl (g 0, 7, .inl (fun i => nI (Q i)))), (a 50, .inr (1, [.int (nI nw), .int (nI m1), .ref us, .ref ut, .ref uh, .ref ua, .ref ul])), (ul, .inl (g 0, 6, .inl (fun i => nI (Ld i))))]) (wr := [(a 0, .inr (7, [.ref (a 1), .ref (a 2), .ref (a 3), .ref (a 4), .ref (a 50), .ref (a 60), .ref (a 7), .ref (a 8), .int (zk_b pic), .int (nI storm), .int chance])), (a 22, .inl (g 0, 7, .inl (fun i => nI (Q i)))), (a 50, .inr (1, [.int (nI nw), .int (nI m1), .ref us, .ref ut, .ref uh, .ref ua, .ref ul])), (ul, .inl (g 0, 6, .inl (fun i => nI (Ld i))))]) ⟨rfl, rfl⟩ (zk_rv (As := [.int (nI y), .int (nI nw)]) (rest := []) (q0 := 1) (ci := 5) Z ((ct_X5_placeAt l D g τ a n hide ver ew ek P S y nw (by omega) (by exact w9.1) (by exact w9.2.1) (by exact w9.2.2) (by omega)) sS.heap.size) hK hT hA G [1, 2, 3] rfl (by decide) rfl rfl gX7_ofWorld_X5_placeAt rfl dvX5_placeAt ⟨by decide, by decide⟩ rfl hl.1 rfl (Nat.le_of_ble_eq_true rfl) dX7_ofWorld_55 ⟨Nat.zero_le _, Nat.zero_le _⟩) hA G [1, 2, 3] [0, 4, 5, 6] [0, 4, 5, 6, 1, 2, 3] rfl rfl (by decide) (by decide) (by decide) (fun _ => rfl) (fun r_55 _ H locs w_55 G => ?_)
    obtain rfl : r_55 = nI (zs_at P S y nw) := w_55
    exact zk_reti Z hR_ hlk hK hQ G () (by unfold zu_ofWd; rw [if_neg (by decide), if_neg (by decide), if_neg (by decide), if_pos rfl]) rfl dX7_ofWorld_58
  by_cases c1_4 : what = nI 4
  · subst c1_4
    refine lv_tableIn (tgt := 59) Z.1 Z.2.1 dX7_ofWorld_1 (by decide) (by decide) (by rfl) (by decide) ?_
    refine lv_aload_n Z.1 Z.2.1 dX7_ofWorld_59 rfl (lv_at hl 0 rfl) ?_
    refine zk_get (C := RX7) (T := TX7) (N := 11) (ci := 7) Z hK G hinX7 0 rfl rfl 4 (by decide) (List.mem_of_getElem? (i := 2) rfl) rfl (v := .ref (a 50)) rfl dX7_ofWorld_60 ?_
    refine zk_get (C := RX1) (T := TX1) (N := 7) (ci := 1) Z hK G hinX1 5 rfl rfl 6 (by decide) (List.mem_of_getElem? (i := 4) rfl) rfl (v := .ref ul) rfl dX7_ofWorld_63 ?_
    refine lv_iload_n Z.1 Z.2.1 dX7_ofWorld_66 rfl (lv_at hl 1 rfl) ?_
    refine zk_iald Z hK G 6 rfl (k := y) (by omega) (by decide) (v := nI (Ld y)) rfl dX7_ofWorld_67 ?_
    exact zk_reti Z hR_ hlk hK hQ G () (by unfold zu_ofWd; rw [if_neg (by decide), if_neg (by decide), if_neg (by decide), if_neg (by decide), if_pos rfl]) rfl dX7_ofWorld_68
  have c1_0' : ¬ what.toInt = 0 := lv_neT c1_0 (by decide)
  have c1_1' : ¬ what.toInt = 1 := lv_neT c1_1 (by decide)
  have c1_2' : ¬ what.toInt = 2 := lv_neT c1_2 (by decide)
  have c1_3' : ¬ what.toInt = 3 := lv_neT c1_3 (by decide)
  have c1_4' : ¬ what.toInt = 4 := lv_neT c1_4 (by decide)
  refine lv_tableOut (tgt := 69) Z.1 Z.2.1 dX7_ofWorld_1 (by omega) (by decide) ?_
  refine lv_iconst (v := (-1)) Z.1 Z.2.1 dX7_ofWorld_69 (by decide +kernel) ?_
  exact zk_reti Z hR_ hlk hK hQ G () (by unfold zu_ofWd; rw [if_neg c1_0, if_neg c1_1, if_neg c1_2, if_neg c1_3, if_neg c1_4]) rfl dX7_ofWorld_70
