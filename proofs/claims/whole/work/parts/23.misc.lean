/-! Chance, and what is asked of one thing. -/
theorem zn_u (z : Int32) : z = nI z.toUInt32.toNat := by
  apply Int32.toBitVec_inj.1
  show z.toBitVec = BitVec.ofNat 32 z.toBitVec.toNat
  simp
theorem zn_ush (z : Int32) : (z.toUInt32 >>> ((nI 8).toUInt32 &&& Int32.toUInt32 31)).toInt32 = nI (z.toUInt32.toNat / 256) := by
  have h := zw_ush (n := z.toUInt32.toNat) (k := 8) z.toUInt32.toNat_lt (by decide)
  rw [← zn_u] at h
  exact h
def zn_next (chance : Int32) : Int32 := chance * nI 1103515245 + nI 12345
def zn_draw (chance : Int32) (b : Nat) : Nat := (zn_next chance).toUInt32.toNat / 256 % b
/-- a book's row of three: a step, a pair, seen or not -/
def zu_okw (n : Nat) (m : Nat → Nat → Nat → Bool) (t pq saw : Int32) : Bool := zb_s t && (zb_pair n pq && (zu_01 saw && (m (zu_p pq) (zu_q pq) t.toInt.toNat == decide (saw = 1))))
def zu_fw (n : Nat) (m : Nat → Nat → Nat → Bool) (It : Nat → Int64) (len : Nat) : Nat → Nat → Int32
  | 0, _ => -2
  | f + 1, k => if k < len then (if k + 3 ≤ len then (if zu_okw n m (It k).toInt32 (It (k + 1)).toInt32 (It (k + 2)).toInt32 = true then zu_fw n m It len f (k + 3) else nI (k / 3)) else nI (k / 3)) else -2
theorem zu_le3 {k len : Nat} (hk : k < 2 ^ 30) (hl : len < 2 ^ 30) : nI k ≤ nI len - nI 3 ↔ k + 3 ≤ len := by
  rw [Int32.le_iff_toInt_le, pk_sub_toInt hl (by decide), nI_toInt (by omega)]; omega
theorem zs_up_id {f : Nat → Nat} {k : Nat} : zs_up f k (f k) = f := funext fun i => by
  simp only [zs_up]; split
  · rename_i h; rw [h]
  · rfl
theorem zs_W_up {n : Nat} {P S : Nat → Nat} {k v : Nat} (h : zs_W n P S) (hv : v < 12) : zs_W n P (zs_up S k v) := by
  refine ⟨h.1, fun i hi => ?_⟩
  have := h.2 i hi
  simp only [zs_up]; split
  · exact ⟨this.1, this.2.1, hv⟩
  · exact this
theorem zk_b_1 {b : Bool} : zk_b b = 1 ↔ b = true := by cases b <;> decide
def zu_ofWd (P S Q : Nat → Nat) (hide storm now : Nat) (Ld : Nat → Nat) (i : Nat) (what : Int32) : Int32 :=
  if what = nI 0 then zu_told P S Q hide storm i (nI 0) else if what = nI 1 then zu_told P S Q hide storm i (nI 1) else if what = nI 2 then zu_told P S Q hide storm i (nI 2)
  else if what = nI 3 then nI (zs_at P S i now) else if what = nI 4 then nI (Ld i) else (-1)
theorem zb_m10 {x : Int32} (h : ¬ x < 10) : x - nI 10 = x - 10 := rfl
def zu_of (n : Nat) (P S Q : Nat → Nat) (hide storm now m : Nat) (Ld Sn Tg : Nat → Nat) (Hd Av : Nat → Int32) (number what : Int32) : Int32 :=
  if 20 ≤ what then (if number = 0 then zu_ofW n P hide storm now what else (-1))
  else if 10 ≤ what then (if zb_w m number = true then zd_of Sn Tg Hd Av number.toInt.toNat (what - nI 10) else (-1))
  else if zb_w n number = true then zu_ofWd P S Q hide storm now Ld number.toInt.toNat what else (-1)

abbrev rm_X7_draw : Room := { frames := 1, cells := 0, slots := 0, locals := 21 }
theorem dvX7_draw : zk_dv yX7_draw RX7 1 := by decide +kernel
set_option maxRecDepth 100000 in
set_option maxHeartbeats 4000000 in
theorem ct_X7_draw (l : Launch) (D : va_G) (g : Nat → ClassId) (τ : Nat → Nat) (a : Nat → Nat) (pic : Bool) (storm : Nat) (chance : Int32) (b9 : Nat) (hb : 1 ≤ b9) (hb2 : b9 < 2 ^ 31) : zk_MI l D g τ yX7_draw wsX7_draw rm_X7_draw [.ref (a 0), .int (nI b9)] [(a 0, .inr (7, [.ref (a 1), .ref (a 2), .ref (a 3), .ref (a 4), .ref (a 50), .ref (a 60), .ref (a 7), .ref (a 8), .int (zk_b pic), .int (nI storm), .int chance]))] (fun (r : Int32) (_ : Unit) => r = nI (zn_draw chance b9)) (fun (_ : Unit) => [(a 0, .inr (7, [.ref (a 1), .ref (a 2), .ref (a 3), .ref (a 4), .ref (a 50), .ref (a 60), .ref (a 7), .ref (a 8), .int (zk_b pic), .int (nI storm), .int ((zn_next chance))]))]) := by
  refine zk_of (Qc := fun A => va_Qi (fun (r : Int32) (_ : Unit) => r = nI (zn_draw chance b9)) (zk_B D g A (fun (_ : Unit) => [(a 0, .inr (7, [.ref (a 1), .ref (a 2), .ref (a 3), .ref (a 4), .ref (a 50), .ref (a 60), .ref (a 7), .ref (a 8), .int (zk_b pic), .int (nI storm), .int ((zn_next chance))]))])) A) (cc := cX7_draw) (maxL := 2) (ret := (some .int)) (own := RX7) (by decide) rfl rfl (Nat.le_of_ble_eq_true rfl) ?_
  intro pP eE sS mM args below meth cC aA ls qQ Z hR_ hlk hnm hK hT hA hQ G hl
  have hinX7 : ∀ w ∈ u_ws RX7 TX7 11, w ∈ wsX7_draw := (fun _ h => List.mem_cons_of_mem _ (List.mem_append_right _ h))
  refine lv_aload_n Z.1 Z.2.1 dX7_draw_0 rfl (lv_at hl 0 rfl) ?_
  refine lv_aload_n Z.1 Z.2.1 dX7_draw_1 rfl (lv_at hl 0 rfl) ?_
  refine zk_get (C := RX7) (T := TX7) (N := 11) (ci := 7) Z hK G hinX7 0 rfl rfl 10 (by decide) (List.mem_of_getElem? (i := 1) rfl) rfl (v := .int chance) rfl dX7_draw_2 ?_
  refine lv_ldcw (v := nI 1103515245) Z.1 Z.2.1 Z.2.2.2.1 (Z.2.2.2.2 _ (List.mem_of_getElem? (i := 2) rfl)) dX7_draw_5 ?_
  refine zk_imul Z dX7_draw_8 (z := chance * (nI 1103515245)) rfl ?_
  refine lv_sipush (v := nI 12345) Z.1 Z.2.1 dX7_draw_9 (by decide +kernel) ?_
  refine zk_iadd Z dX7_draw_12 (z := (chance * (nI 1103515245)) + (nI 12345)) rfl ?_
  refine zk_put tyX7 tyX7_ok nmX7 (C := RX7) (T := TX7) (N := 11) (ci := 7) Z hK G hinX7 0 rfl rfl 10 (by decide) (List.mem_of_getElem? (i := 1) rfl) rfl rfl rfl rfl (Nat.le_of_ble_eq_true rfl) (ws' := [(a 0, .inr (7, [.ref (a 1), .ref (a 2), .ref (a 3), .ref (a 4), .ref (a 50), .ref (a 60), .ref (a 7), .ref (a 8), .int (zk_b pic), .int (nI storm), .int ((chance * (nI 1103515245)) + (nI 12345))]))]) rfl dX7_draw_13 (fun H locs G => ?_)
  have G : zk_G D aA [(a 0, .inr (7, [.ref (a 1), .ref (a 2), .ref (a 3), .ref (a 4), .ref (a 50), .ref (a 60), .ref (a 7), .ref (a 8), .int (zk_b pic), .int (nI storm), .int (zn_next chance)]))] sS H locs := G
  refine lv_aload_n Z.1 Z.2.1 dX7_draw_16 rfl (lv_at hl 0 rfl) ?_
  refine zk_get (C := RX7) (T := TX7) (N := 11) (ci := 7) Z hK G hinX7 0 rfl rfl 10 (by decide) (List.mem_of_getElem? (i := 1) rfl) rfl (v := .int (zn_next chance)) rfl dX7_draw_17 ?_
  refine lv_bipush (v := nI 8) Z.1 Z.2.1 dX7_draw_20 (by decide +kernel) ?_
  refine lv_iushr (v := nI ((zn_next chance).toUInt32.toNat / 256)) Z.1 Z.2.1 dX7_draw_22 (zn_ush _) ?_
  refine lv_iload_n Z.1 Z.2.1 dX7_draw_23 rfl (lv_at hl 1 rfl) ?_
  refine zk_ci (WF := fun (_ : Unit) => [(a 0, .inr (7, [.ref (a 1), .ref (a 2), .ref (a 3), .ref (a 4), .ref (a 50), .ref (a 60), .ref (a 7), .ref (a 8), .int (zk_b pic), .int (nI storm), .int (zn_next chance)]))]) (wr := [(a 0, .inr (7, [.ref (a 1), .ref (a 2), .ref (a 3), .ref (a 4), .ref (a 50), .ref (a 60), .ref (a 7), .ref (a 8), .int (zk_b pic), .int (nI storm), .int (zn_next chance)]))]) ⟨rfl, rfl⟩ (zk_rs (As := [.int (nI ((zn_next chance).toUInt32.toNat / 256)), .int (nI b9)]) (rest := []) Z ((ct_X7_left l D g τ ((zn_next chance).toUInt32.toNat / 256) b9 (by omega) (by omega) (by have h9 := (zn_next chance).toUInt32.toNat_lt; omega)) H.size) hK hT hA G [] rfl (by decide) gX7_draw_X7_left rfl dvX7_left ⟨by decide, by decide⟩ rfl hl.1 rfl (Nat.le_of_ble_eq_true rfl) dX7_draw_24 ⟨Nat.zero_le _, Nat.zero_le _⟩) hA G [] [0] [0] rfl rfl (by decide) (by decide) (by decide) (fun _ => rfl) (fun r_24 _ H locs w_24 G => ?_)
  obtain rfl : r_24 = nI (((zn_next chance).toUInt32.toNat / 256) % b9) := w_24
  exact zk_reti Z hR_ hlk hK hQ G () rfl rfl dX7_draw_27

abbrev rm_X7_ofWorld : Room := { frames := 3, cells := 0, slots := 0, locals := 65 }
theorem dvX7_ofWorld : zk_dv yX7_ofWorld RX7 2 := by decide +kernel
set_option maxRecDepth 100000 in
set_option maxHeartbeats 4000000 in
theorem ct_X7_ofWorld (l : Launch) (D : va_G) (g : Nat → ClassId) (τ : Nat → Nat) (a : Nat → Nat) (pic : Bool) (storm : Nat) (chance : Int32) (n : Nat) (hide : Nat) (ver : Nat) (ew : Int32) (ek : Bool) (P : Nat → Nat) (S : Nat → Nat) (Q : Nat → Nat) (us : Nat) (ut : Nat) (uh : Nat) (ua : Nat) (ul : Nat) (nw : Nat) (m1 : Nat) (Ld : Nat → Nat) (y : Nat) (what : Int32) (hi : y < n) (hn6 : n ≤ 6) (hW : zs_W n P S) (hnw : nw < 2 ^ 30) : zk_MI l D g τ yX7_ofWorld wsX7_ofWorld rm_X7_ofWorld [.ref (a 0), .int (nI y), .int what] [(a 0, .inr (7, [.ref (a 1), .ref (a 2), .ref (a 3), .ref (a 4), .ref (a 50), .ref (a 60), .ref (a 7), .ref (a 8), .int (zk_b pic), .int (nI storm), .int chance])), (a 2, .inr (5, [.ref (a 20), .ref (a 21), .ref (a 22), .int (nI n), .int (nI hide), .ref (a 1), .ref (a 23), .ref (a 24), .int (nI ver), .int ew, .int (zk_b ek)])), (a 20, .inl (g 0, 7, .inl (fun i => nI (P i)))), (a 21, .inl (g 0, 7, .inl (fun i => nI (S i)))), (a 22, .inl (g 0, 7, .inl (fun i => nI (Q i)))), (a 50, .inr (1, [.int (nI nw), .int (nI m1), .ref us, .ref ut, .ref uh, .ref ua, .ref ul])), (ul, .inl (g 0, 6, .inl (fun i => nI (Ld i))))] (fun (r : Int32) (_ : Unit) => r = zu_ofWd P S Q hide storm nw Ld y what) (fun (_ : Unit) => [(a 0, .inr (7, [.ref (a 1), .ref (a 2), .ref (a 3), .ref (a 4), .ref (a 50), .ref (a 60), .ref (a 7), .ref (a 8), .int (zk_b pic), .int (nI storm), .int chance])), (a 2, .inr (5, [.ref (a 20), .ref (a 21), .ref (a 22), .int (nI n), .int (nI hide), .ref (a 1), .ref (a 23), .ref (a 24), .int (nI ver), .int ew, .int (zk_b ek)])), (a 20, .inl (g 0, 7, .inl (fun i => nI (P i)))), (a 21, .inl (g 0, 7, .inl (fun i => nI (S i)))), (a 22, .inl (g 0, 7, .inl (fun i => nI (Q i)))), (a 50, .inr (1, [.int (nI nw), .int (nI m1), .ref us, .ref ut, .ref uh, .ref ua, .ref ul])), (ul, .inl (g 0, 6, .inl (fun i => nI (Ld i))))]) := by
  refine zk_of (Qc := fun A => va_Qi (fun (r : Int32) (_ : Unit) => r = zu_ofWd P S Q hide storm nw Ld y what) (zk_B D g A (fun (_ : Unit) => [(a 0, .inr (7, [.ref (a 1), .ref (a 2), .ref (a 3), .ref (a 4), .ref (a 50), .ref (a 60), .ref (a 7), .ref (a 8), .int (zk_b pic), .int (nI storm), .int chance])), (a 2, .inr (5, [.ref (a 20), .ref (a 21), .ref (a 22), .int (nI n), .int (nI hide), .ref (a 1), .ref (a 23), .ref (a 24), .int (nI ver), .int ew, .int (zk_b ek)])), (a 20, .inl (g 0, 7, .inl (fun i => nI (P i)))), (a 21, .inl (g 0, 7, .inl (fun i => nI (S i)))), (a 22, .inl (g 0, 7, .inl (fun i => nI (Q i)))), (a 50, .inr (1, [.int (nI nw), .int (nI m1), .ref us, .ref ut, .ref uh, .ref ua, .ref ul])), (ul, .inl (g 0, 6, .inl (fun i => nI (Ld i))))])) A) (cc := cX7_ofWorld) (maxL := 3) (ret := (some .int)) (own := RX7) (by decide) rfl rfl (Nat.le_of_ble_eq_true rfl) ?_
  intro pP eE sS mM args below meth cC aA ls qQ Z hR_ hlk hnm hK hT hA hQ G hl
  have hinX1 : ∀ w ∈ u_ws RX1 TX1 7, w ∈ wsX7_ofWorld := (fun _ h => List.mem_cons_of_mem _ (List.mem_append_left _ (List.mem_append_right _ h)))
  have hinX7 : ∀ w ∈ u_ws RX7 TX7 11, w ∈ wsX7_ofWorld := (fun _ h => List.mem_cons_of_mem _ (List.mem_append_left _ (List.mem_append_left _ (List.mem_append_right _ h))))
  have w9 := hW.2 y hi
  refine lv_iload_n Z.1 Z.2.1 dX7_ofWorld_0 rfl (lv_at hl 2 rfl) ?_
  by_cases c1_0 : what = nI 0
  · subst c1_0
    refine lv_tableIn (tgt := 36) Z.1 Z.2.1 dX7_ofWorld_1 (by decide) (by decide) (by rfl) (by decide) ?_
    refine lv_aload_n Z.1 Z.2.1 dX7_ofWorld_36 rfl (lv_at hl 0 rfl) ?_
    refine lv_iload_n Z.1 Z.2.1 dX7_ofWorld_37 rfl (lv_at hl 1 rfl) ?_
    refine lv_iload_n Z.1 Z.2.1 dX7_ofWorld_38 rfl (lv_at hl 2 rfl) ?_
    refine zk_ci (WF := fun (_ : Unit) => [(a 0, .inr (7, [.ref (a 1), .ref (a 2), .ref (a 3), .ref (a 4), .ref (a 50), .ref (a 60), .ref (a 7), .ref (a 8), .int (zk_b pic), .int (nI storm), .int chance])), (a 2, .inr (5, [.ref (a 20), .ref (a 21), .ref (a 22), .int (nI n), .int (nI hide), .ref (a 1), .ref (a 23), .ref (a 24), .int (nI ver), .int ew, .int (zk_b ek)])), (a 20, .inl (g 0, 7, .inl (fun i => nI (P i)))), (a 21, .inl (g 0, 7, .inl (fun i => nI (S i)))), (a 22, .inl (g 0, 7, .inl (fun i => nI (Q i)))), (a 50, .inr (1, [.int (nI nw), .int (nI m1), .ref us, .ref ut, .ref uh, .ref ua, .ref ul])), (ul, .inl (g 0, 6, .inl (fun i => nI (Ld i))))]) (wr := [(a 50, .inr (1, [.int (nI nw), .int (nI m1), .ref us, .ref ut, .ref uh, .ref ua, .ref ul])), (ul, .inl (g 0, 6, .inl (fun i => nI (Ld i))))]) ⟨rfl, rfl⟩ (zk_rv (As := [.int (nI y), .int (nI 0)]) (rest := []) (q0 := 0) (ci := 7) Z ((ct_X7_told l D g τ a pic storm chance n hide ver ew ek P S Q y (nI 0) (by omega)) sS.heap.size) hK hT hA G [0, 1, 2, 3, 4] rfl (by decide) rfl rfl gX7_ofWorld_X7_told rfl dvX7_told ⟨by decide, by decide⟩ rfl hl.1 rfl (Nat.le_of_ble_eq_true rfl) dX7_ofWorld_39 ⟨Nat.zero_le _, Nat.zero_le _⟩) hA G [0, 1, 2, 3, 4] [5, 6] [2, 3, 4, 5, 6, 0, 1] rfl rfl (by decide) (by decide) (by decide) (fun _ => rfl) (fun r_39 _ H locs w_39 G => ?_)
    obtain rfl : r_39 = zu_told P S Q hide storm y (nI 0) := w_39
    exact zk_reti Z hR_ hlk hK hQ G () (by unfold zu_ofWd; rw [if_pos rfl]) rfl dX7_ofWorld_42
  by_cases c1_1 : what = nI 1
  · subst c1_1
    refine lv_tableIn (tgt := 36) Z.1 Z.2.1 dX7_ofWorld_1 (by decide) (by decide) (by rfl) (by decide) ?_
    refine lv_aload_n Z.1 Z.2.1 dX7_ofWorld_36 rfl (lv_at hl 0 rfl) ?_
    refine lv_iload_n Z.1 Z.2.1 dX7_ofWorld_37 rfl (lv_at hl 1 rfl) ?_
    refine lv_iload_n Z.1 Z.2.1 dX7_ofWorld_38 rfl (lv_at hl 2 rfl) ?_
    refine zk_ci (WF := fun (_ : Unit) => [(a 0, .inr (7, [.ref (a 1), .ref (a 2), .ref (a 3), .ref (a 4), .ref (a 50), .ref (a 60), .ref (a 7), .ref (a 8), .int (zk_b pic), .int (nI storm), .int chance])), (a 2, .inr (5, [.ref (a 20), .ref (a 21), .ref (a 22), .int (nI n), .int (nI hide), .ref (a 1), .ref (a 23), .ref (a 24), .int (nI ver), .int ew, .int (zk_b ek)])), (a 20, .inl (g 0, 7, .inl (fun i => nI (P i)))), (a 21, .inl (g 0, 7, .inl (fun i => nI (S i)))), (a 22, .inl (g 0, 7, .inl (fun i => nI (Q i)))), (a 50, .inr (1, [.int (nI nw), .int (nI m1), .ref us, .ref ut, .ref uh, .ref ua, .ref ul])), (ul, .inl (g 0, 6, .inl (fun i => nI (Ld i))))]) (wr := [(a 50, .inr (1, [.int (nI nw), .int (nI m1), .ref us, .ref ut, .ref uh, .ref ua, .ref ul])), (ul, .inl (g 0, 6, .inl (fun i => nI (Ld i))))]) ⟨rfl, rfl⟩ (zk_rv (As := [.int (nI y), .int (nI 1)]) (rest := []) (q0 := 0) (ci := 7) Z ((ct_X7_told l D g τ a pic storm chance n hide ver ew ek P S Q y (nI 1) (by omega)) sS.heap.size) hK hT hA G [0, 1, 2, 3, 4] rfl (by decide) rfl rfl gX7_ofWorld_X7_told rfl dvX7_told ⟨by decide, by decide⟩ rfl hl.1 rfl (Nat.le_of_ble_eq_true rfl) dX7_ofWorld_39 ⟨Nat.zero_le _, Nat.zero_le _⟩) hA G [0, 1, 2, 3, 4] [5, 6] [2, 3, 4, 5, 6, 0, 1] rfl rfl (by decide) (by decide) (by decide) (fun _ => rfl) (fun r_39 _ H locs w_39 G => ?_)
    obtain rfl : r_39 = zu_told P S Q hide storm y (nI 1) := w_39
    exact zk_reti Z hR_ hlk hK hQ G () (by unfold zu_ofWd; rw [if_neg (by decide), if_pos rfl]) rfl dX7_ofWorld_42
  by_cases c1_2 : what = nI 2
  · subst c1_2
    refine lv_tableIn (tgt := 36) Z.1 Z.2.1 dX7_ofWorld_1 (by decide) (by decide) (by rfl) (by decide) ?_
    refine lv_aload_n Z.1 Z.2.1 dX7_ofWorld_36 rfl (lv_at hl 0 rfl) ?_
    refine lv_iload_n Z.1 Z.2.1 dX7_ofWorld_37 rfl (lv_at hl 1 rfl) ?_
    refine lv_iload_n Z.1 Z.2.1 dX7_ofWorld_38 rfl (lv_at hl 2 rfl) ?_
    refine zk_ci (WF := fun (_ : Unit) => [(a 0, .inr (7, [.ref (a 1), .ref (a 2), .ref (a 3), .ref (a 4), .ref (a 50), .ref (a 60), .ref (a 7), .ref (a 8), .int (zk_b pic), .int (nI storm), .int chance])), (a 2, .inr (5, [.ref (a 20), .ref (a 21), .ref (a 22), .int (nI n), .int (nI hide), .ref (a 1), .ref (a 23), .ref (a 24), .int (nI ver), .int ew, .int (zk_b ek)])), (a 20, .inl (g 0, 7, .inl (fun i => nI (P i)))), (a 21, .inl (g 0, 7, .inl (fun i => nI (S i)))), (a 22, .inl (g 0, 7, .inl (fun i => nI (Q i)))), (a 50, .inr (1, [.int (nI nw), .int (nI m1), .ref us, .ref ut, .ref uh, .ref ua, .ref ul])), (ul, .inl (g 0, 6, .inl (fun i => nI (Ld i))))]) (wr := [(a 50, .inr (1, [.int (nI nw), .int (nI m1), .ref us, .ref ut, .ref uh, .ref ua, .ref ul])), (ul, .inl (g 0, 6, .inl (fun i => nI (Ld i))))]) ⟨rfl, rfl⟩ (zk_rv (As := [.int (nI y), .int (nI 2)]) (rest := []) (q0 := 0) (ci := 7) Z ((ct_X7_told l D g τ a pic storm chance n hide ver ew ek P S Q y (nI 2) (by omega)) sS.heap.size) hK hT hA G [0, 1, 2, 3, 4] rfl (by decide) rfl rfl gX7_ofWorld_X7_told rfl dvX7_told ⟨by decide, by decide⟩ rfl hl.1 rfl (Nat.le_of_ble_eq_true rfl) dX7_ofWorld_39 ⟨Nat.zero_le _, Nat.zero_le _⟩) hA G [0, 1, 2, 3, 4] [5, 6] [2, 3, 4, 5, 6, 0, 1] rfl rfl (by decide) (by decide) (by decide) (fun _ => rfl) (fun r_39 _ H locs w_39 G => ?_)
    obtain rfl : r_39 = zu_told P S Q hide storm y (nI 2) := w_39
    exact zk_reti Z hR_ hlk hK hQ G () (by unfold zu_ofWd; rw [if_neg (by decide), if_neg (by decide), if_pos rfl]) rfl dX7_ofWorld_42
  by_cases c1_3 : what = nI 3
  · subst c1_3
    refine lv_tableIn (tgt := 43) Z.1 Z.2.1 dX7_ofWorld_1 (by decide) (by decide) (by rfl) (by decide) ?_
    refine lv_aload_n Z.1 Z.2.1 dX7_ofWorld_43 rfl (lv_at hl 0 rfl) ?_
    refine zk_get (C := RX7) (T := TX7) (N := 11) (ci := 7) Z hK G hinX7 0 rfl rfl 1 (by decide) (List.mem_of_getElem? (i := 1) rfl) rfl (v := .ref (a 2)) rfl dX7_ofWorld_44 ?_
    refine lv_iload_n Z.1 Z.2.1 dX7_ofWorld_47 rfl (lv_at hl 1 rfl) ?_
    refine lv_aload_n Z.1 Z.2.1 dX7_ofWorld_48 rfl (lv_at hl 0 rfl) ?_
    refine zk_get (C := RX7) (T := TX7) (N := 11) (ci := 7) Z hK G hinX7 0 rfl rfl 4 (by decide) (List.mem_of_getElem? (i := 2) rfl) rfl (v := .ref (a 50)) rfl dX7_ofWorld_49 ?_
    refine zk_get (C := RX1) (T := TX1) (N := 7) (ci := 1) Z hK G hinX1 5 rfl rfl 0 (by decide) (List.mem_of_getElem? (i := 3) rfl) rfl (v := .int (nI nw)) rfl dX7_ofWorld_52 ?_
    refine zk_ci (WF := fun (_ : Unit) => [(a 0, .inr (7, [.ref (a 1), .ref (a 2), .ref (a 3), .ref (a 4), .ref (a 50), .ref (a 60), .ref (a 7), .ref (a 8), .int (zk_b pic), .int (nI storm), .int chance])), (a 2, .inr (5, [.ref (a 20), .ref (a 21), .ref (a 22), .int (nI n), .int (nI hide), .ref (a 1), .ref (a 23), .ref (a 24), .int (nI ver), .int ew, .int (zk_b ek)])), (a 20, .inl (g 0, 7, .inl (fun i => nI (P i)))), (a 21, .inl (g 0, 7, .inl (fun i => nI (S i)))), (a 22, .inl (g 0, 7, .inl (fun i => nI (Q i)))), (a 50, .inr (1, [.int (nI nw), .int (nI m1), .ref us, .ref ut, .ref uh, .ref ua, .ref ul])), (ul, .inl (g 0, 6, .inl (fun i => nI (Ld i))))]) (wr := [(a 0, .inr (7, [.ref (a 1), .ref (a 2), .ref (a 3), .ref (a 4), .ref (a 50), .ref (a 60), .ref (a 7), .ref (a 8), .int (zk_b pic), .int (nI storm), .int chance])), (a 22, .inl (g 0, 7, .inl (fun i => nI (Q i)))), (a 50, .inr (1, [.int (nI nw), .int (nI m1), .ref us, .ref ut, .ref uh, .ref ua, .ref ul])), (ul, .inl (g 0, 6, .inl (fun i => nI (Ld i))))]) ⟨rfl, rfl⟩ (zk_rv (As := [.int (nI y), .int (nI nw)]) (rest := []) (q0 := 1) (ci := 5) Z ((ct_X5_placeAt l D g τ a n hide ver ew ek P S y nw (by omega) (by exact w9.1) (by exact w9.2.1) (by exact w9.2.2) (by omega)) sS.heap.size) hK hT hA G [1, 2, 3] rfl (by decide) rfl rfl gX7_ofWorld_X5_placeAt rfl dvX5_placeAt ⟨by decide, by decide⟩ rfl hl.1 rfl (Nat.le_of_ble_eq_true rfl) dX7_ofWorld_55 ⟨Nat.zero_le _, Nat.zero_le _⟩) hA G [1, 2, 3] [0, 4, 5, 6] [0, 4, 5, 6, 1, 2, 3] rfl rfl (by decide) (by decide) (by decide) (fun _ => rfl) (fun r_55 _ H locs w_55 G => ?_)
    obtain rfl : r_55 = nI (zs_at P S y nw) := w_55
    exact zk_reti Z hR_ hlk hK hQ G () (by unfold zu_ofWd; rw [if_neg (by decide), if_neg (by decide), if_neg (by decide), if_pos rfl]) rfl dX7_ofWorld_58
  by_cases c1_4 : what = nI 4
  · subst c1_4
    refine lv_tableIn (tgt := 59) Z.1 Z.2.1 dX7_ofWorld_1 (by decide) (by decide) (by rfl) (by decide) ?_
    refine lv_aload_n Z.1 Z.2.1 dX7_ofWorld_59 rfl (lv_at hl 0 rfl) ?_
    refine zk_get (C := RX7) (T := TX7) (N := 11) (ci := 7) Z hK G hinX7 0 rfl rfl 4 (by decide) (List.mem_of_getElem? (i := 2) rfl) rfl (v := .ref (a 50)) rfl dX7_ofWorld_60 ?_
    refine zk_get (C := RX1) (T := TX1) (N := 7) (ci := 1) Z hK G hinX1 5 rfl rfl 6 (by decide) (List.mem_of_getElem? (i := 4) rfl) rfl (v := .ref ul) rfl dX7_ofWorld_63 ?_
    refine lv_iload_n Z.1 Z.2.1 dX7_ofWorld_66 rfl (lv_at hl 1 rfl) ?_
    refine zk_iald Z hK G 6 rfl (k := y) (by omega) (by decide) (v := nI (Ld y)) rfl dX7_ofWorld_67 ?_
    exact zk_reti Z hR_ hlk hK hQ G () (by unfold zu_ofWd; rw [if_neg (by decide), if_neg (by decide), if_neg (by decide), if_neg (by decide), if_pos rfl]) rfl dX7_ofWorld_68
  have c1_0' : ¬ what.toInt = 0 := lv_neT c1_0 (by decide)
  have c1_1' : ¬ what.toInt = 1 := lv_neT c1_1 (by decide)
  have c1_2' : ¬ what.toInt = 2 := lv_neT c1_2 (by decide)
  have c1_3' : ¬ what.toInt = 3 := lv_neT c1_3 (by decide)
  have c1_4' : ¬ what.toInt = 4 := lv_neT c1_4 (by decide)
  refine lv_tableOut (tgt := 69) Z.1 Z.2.1 dX7_ofWorld_1 (by omega) (by decide) ?_
  refine lv_iconst (v := (-1)) Z.1 Z.2.1 dX7_ofWorld_69 (by decide +kernel) ?_
  exact zk_reti Z hR_ hlk hK hQ G () (by unfold zu_ofWd; rw [if_neg c1_0, if_neg c1_1, if_neg c1_2, if_neg c1_3, if_neg c1_4]) rfl dX7_ofWorld_70

abbrev rm_X7_firstWrong : Room := { frames := 5, cells := 0, slots := 0, locals := 145 }
theorem dvX7_firstWrong : zk_dv yX7_firstWrong RX7 1 := by decide +kernel
set_option maxRecDepth 100000 in
set_option maxHeartbeats 4000000 in
theorem ct_X7_firstWrong (l : Launch) (D : va_G) (g : Nat → ClassId) (τ : Nat → Nat) (a : Nat → Nat) (pic : Bool) (storm : Nat) (chance : Int32) (n : Nat) (hide : Nat) (ver : Nat) (ew : Int32) (ek : Bool) (P : Nat → Nat) (S : Nat → Nat) (Q : Nat → Nat) (T : Nat → Int32) (kc : Nat) (kv : Nat) (kn : Nat) (km : Nat) (sz : Nat) (ns : Int32) (ln : Nat) (at1 : Int32) (ft : Int32) (C : Nat → Nat) (X : Nat → Nat) (nm : Nat → Int32) (stk : Nat → Int32) (so : Nat) (si : Nat) (sort : Int32) (len : Nat) (rel : Int32) (It : Nat → Int64) (hwf : zl_wf C X sz) (hhi : hide ≤ 180) (hW : zs_W n P S) (hok : zs_ok (decide (0 < sz)) (zl_ev C X sz) P Q hide n T) (hlen : len ≤ 60) : zk_MI l D g τ yX7_firstWrong wsX7_firstWrong rm_X7_firstWrong [.ref (a 0), .ref so] [(a 0, .inr (7, [.ref (a 1), .ref (a 2), .ref (a 3), .ref (a 4), .ref (a 50), .ref (a 60), .ref (a 7), .ref (a 8), .int (zk_b pic), .int (nI storm), .int chance])), (a 2, .inr (5, [.ref (a 20), .ref (a 21), .ref (a 22), .int (nI n), .int (nI hide), .ref (a 1), .ref (a 23), .ref (a 24), .int (nI ver), .int ew, .int (zk_b ek)])), (a 20, .inl (g 0, 7, .inl (fun i => nI (P i)))), (a 21, .inl (g 0, 7, .inl (fun i => nI (S i)))), (a 22, .inl (g 0, 7, .inl (fun i => nI (Q i)))), (a 23, .inl (g 2, 3024, .inl T)), (a 1, .inr (2, [.ref (a 10), .ref (a 11), .ref (a 12), .ref kc, .ref kv, .ref kn, .ref km, .int (nI sz), .int ns, .int (nI ln), .int at1, .int ft])), (a 10, .inl (g 0, 6, .inl nm)), (a 12, .inl (g 0, 128, .inl stk)), (kc, .inl (g 0, 128, .inl (fun i => nI (C i)))), (kv, .inl (g 0, 128, .inl (fun i => nI (X i)))), (so, .inr (4, [.ref si, .int sort, .int (nI len), .int rel])), (si, .inl (g 1, 60, .inr (.inl It)))] (fun (r : Int32) (uu : (Nat → Int32) × (Nat → Int32) × (Nat → Int32)) => (r = zu_fw n (zs_meet (decide (0 < sz)) (zl_ev C X sz) P S Q hide) It len 21 0) ∧ (zs_ok (decide (0 < sz)) (zl_ev C X sz) P Q hide n uu.1)) (fun (uu : (Nat → Int32) × (Nat → Int32) × (Nat → Int32)) => [(a 0, .inr (7, [.ref (a 1), .ref (a 2), .ref (a 3), .ref (a 4), .ref (a 50), .ref (a 60), .ref (a 7), .ref (a 8), .int (zk_b pic), .int (nI storm), .int chance])), (a 2, .inr (5, [.ref (a 20), .ref (a 21), .ref (a 22), .int (nI n), .int (nI hide), .ref (a 1), .ref (a 23), .ref (a 24), .int (nI ver), .int ew, .int (zk_b ek)])), (a 20, .inl (g 0, 7, .inl (fun i => nI (P i)))), (a 21, .inl (g 0, 7, .inl (fun i => nI (S i)))), (a 22, .inl (g 0, 7, .inl (fun i => nI (Q i)))), (a 23, .inl (g 2, 3024, .inl uu.1)), (a 1, .inr (2, [.ref (a 10), .ref (a 11), .ref (a 12), .ref kc, .ref kv, .ref kn, .ref km, .int (nI sz), .int ns, .int (nI ln), .int at1, .int ft])), (a 10, .inl (g 0, 6, .inl uu.2.1)), (a 12, .inl (g 0, 128, .inl uu.2.2)), (kc, .inl (g 0, 128, .inl (fun i => nI (C i)))), (kv, .inl (g 0, 128, .inl (fun i => nI (X i)))), (so, .inr (4, [.ref si, .int sort, .int (nI len), .int rel])), (si, .inl (g 1, 60, .inr (.inl It)))]) := by
  refine zk_of (Qc := fun A => va_Qi (fun (r : Int32) (uu : (Nat → Int32) × (Nat → Int32) × (Nat → Int32)) => (r = zu_fw n (zs_meet (decide (0 < sz)) (zl_ev C X sz) P S Q hide) It len 21 0) ∧ (zs_ok (decide (0 < sz)) (zl_ev C X sz) P Q hide n uu.1)) (zk_B D g A (fun (uu : (Nat → Int32) × (Nat → Int32) × (Nat → Int32)) => [(a 0, .inr (7, [.ref (a 1), .ref (a 2), .ref (a 3), .ref (a 4), .ref (a 50), .ref (a 60), .ref (a 7), .ref (a 8), .int (zk_b pic), .int (nI storm), .int chance])), (a 2, .inr (5, [.ref (a 20), .ref (a 21), .ref (a 22), .int (nI n), .int (nI hide), .ref (a 1), .ref (a 23), .ref (a 24), .int (nI ver), .int ew, .int (zk_b ek)])), (a 20, .inl (g 0, 7, .inl (fun i => nI (P i)))), (a 21, .inl (g 0, 7, .inl (fun i => nI (S i)))), (a 22, .inl (g 0, 7, .inl (fun i => nI (Q i)))), (a 23, .inl (g 2, 3024, .inl uu.1)), (a 1, .inr (2, [.ref (a 10), .ref (a 11), .ref (a 12), .ref kc, .ref kv, .ref kn, .ref km, .int (nI sz), .int ns, .int (nI ln), .int at1, .int ft])), (a 10, .inl (g 0, 6, .inl uu.2.1)), (a 12, .inl (g 0, 128, .inl uu.2.2)), (kc, .inl (g 0, 128, .inl (fun i => nI (C i)))), (kv, .inl (g 0, 128, .inl (fun i => nI (X i)))), (so, .inr (4, [.ref si, .int sort, .int (nI len), .int rel])), (si, .inl (g 1, 60, .inr (.inl It)))])) A) (cc := cX7_firstWrong) (maxL := 6) (ret := (some .int)) (own := RX7) (by decide) rfl rfl (Nat.le_of_ble_eq_true rfl) ?_
  intro pP eE sS mM args below meth cC aA ls qQ Z hR_ hlk hnm hK hT hA hQ G hl
  have hinX4 : ∀ w ∈ u_ws RX4 TX4 4, w ∈ wsX7_firstWrong := (fun _ h => List.mem_cons_of_mem _ (List.mem_append_left _ (List.mem_append_left _ (List.mem_append_left _ (List.mem_append_right _ h)))))
  have hinX7 : ∀ w ∈ u_ws RX7 TX7 11, w ∈ wsX7_firstWrong := (fun _ h => List.mem_cons_of_mem _ (List.mem_append_left _ (List.mem_append_left _ (List.mem_append_right _ h))))
  have hn := hW.1
  obtain ⟨V, hV⟩ : ∃ V, V = zu_fw n (zs_meet (decide (0 < sz)) (zl_ev C X sz) P S Q hide) It len 21 0 := ⟨_, rfl⟩
  refine lv_iconst (v := nI 0) Z.1 Z.2.1 dX7_firstWrong_0 (by decide +kernel) ?_
  refine lv_istore_n (lv' := [(2, .int (nI 0)), (0, .ref (a 0)), (1, .ref so)]) Z.1 Z.2.1 dX7_firstWrong_1 rfl hl (by decide) rfl (fun ls hl => ?_)
  have L2 : ∀ (nN : Nat) (k : Nat) (f : Nat) (T1 : Nat → Int32) (nm1 : Nat → Int32) (stk1 : Nat → Int32), f < nN → (k + 3 * f ≥ 63) → (k ≤ 60) → (zu_fw n (zs_meet (decide (0 < sz)) (zl_ev C X sz) P S Q hide) It len f k = V) → (zs_ok (decide (0 < sz)) (zl_ev C X sz) P Q hide n T1) → ∀ (H : Heap) (locs : List Loc) (ls : Array Slot), zk_G D aA [(a 0, .inr (7, [.ref (a 1), .ref (a 2), .ref (a 3), .ref (a 4), .ref (a 50), .ref (a 60), .ref (a 7), .ref (a 8), .int (zk_b pic), .int (nI storm), .int chance])), (a 2, .inr (5, [.ref (a 20), .ref (a 21), .ref (a 22), .int (nI n), .int (nI hide), .ref (a 1), .ref (a 23), .ref (a 24), .int (nI ver), .int ew, .int (zk_b ek)])), (a 20, .inl (g 0, 7, .inl (fun i => nI (P i)))), (a 21, .inl (g 0, 7, .inl (fun i => nI (S i)))), (a 22, .inl (g 0, 7, .inl (fun i => nI (Q i)))), (a 23, .inl (g 2, 3024, .inl T1)), (a 1, .inr (2, [.ref (a 10), .ref (a 11), .ref (a 12), .ref kc, .ref kv, .ref kn, .ref km, .int (nI sz), .int ns, .int (nI ln), .int at1, .int ft])), (a 10, .inl (g 0, 6, .inl nm1)), (a 12, .inl (g 0, 128, .inl stk1)), (kc, .inl (g 0, 128, .inl (fun i => nI (C i)))), (kv, .inl (g 0, 128, .inl (fun i => nI (X i)))), (so, .inr (4, [.ref si, .int sort, .int (nI len), .int rel])), (si, .inl (g 1, 60, .inr (.inl It)))] sS H locs → lv_has ls 6 [(0, .ref (a 0)), (1, .ref so), (2, .int (nI k))] → W pP l eE rm_X7_firstWrong sS mM args below meth cC H locs 0 0 qQ (F0 mM 2 ls []) := by
    intro nN
    induction nN with
    | zero => intros; omega
    | succ nN ih2 =>
      intro k f T1 nm1 stk1 hμ h1 h2 hs ho H locs ls G hl
      refine lv_iload_n Z.1 Z.2.1 dX7_firstWrong_2 rfl (lv_at hl 2 rfl) ?_
      refine lv_aload_n Z.1 Z.2.1 dX7_firstWrong_3 rfl (lv_at hl 1 rfl) ?_
      refine zk_get (C := RX4) (T := TX4) (N := 4) (ci := 4) Z hK G hinX4 11 rfl rfl 2 (by decide) (List.mem_of_getElem? (i := 1) rfl) rfl (v := .int (nI len)) rfl dX7_firstWrong_4 ?_
      refine lv_icmp_ge (tgt := 123) Z.1 Z.2.1 dX7_firstWrong_7 (by decide) (fun c7 => ?_) (fun c7 => ?_)
      · have c7 : len ≤ k := zk_le (by omega) (by omega) c7
        refine lv_bipush (v := (-2)) Z.1 Z.2.1 dX7_firstWrong_123 (by decide +kernel) ?_
        exact zk_reti Z hR_ hlk hK hQ G (T1, nm1, stk1) ⟨(by rw [← hV, ← hs]; cases f with | zero => rfl | succ f => simp only [zu_fw]; rw [if_neg (by omega)]), ho⟩ rfl dX7_firstWrong_125
      have c7 : k < len := zk_nle (by omega) (by omega) c7
      obtain ⟨f9, rfl⟩ : ∃ f9, f = f9 + 1 := ⟨f - 1, by omega⟩
      refine lv_iload_n Z.1 Z.2.1 dX7_firstWrong_10 rfl (lv_at hl 2 rfl) ?_
      refine lv_aload_n Z.1 Z.2.1 dX7_firstWrong_11 rfl (lv_at hl 1 rfl) ?_
      refine zk_get (C := RX4) (T := TX4) (N := 4) (ci := 4) Z hK G hinX4 11 rfl rfl 2 (by decide) (List.mem_of_getElem? (i := 1) rfl) rfl (v := .int (nI len)) rfl dX7_firstWrong_12 ?_
      refine lv_iconst (v := nI 3) Z.1 Z.2.1 dX7_firstWrong_15 (by decide +kernel) ?_
      refine zk_isub Z dX7_firstWrong_16 (z := nI len - nI 3) rfl ?_
      refine lv_icmp_le (tgt := 24) Z.1 Z.2.1 dX7_firstWrong_17 (by decide) (fun c17 => ?_) (fun c17 => ?_)
      · have c17 : k + 3 ≤ len := (zu_le3 (by omega) (by omega)).mp c17
        refine lv_aload_n Z.1 Z.2.1 dX7_firstWrong_24 rfl (lv_at hl 1 rfl) ?_
        refine zk_get (C := RX4) (T := TX4) (N := 4) (ci := 4) Z hK G hinX4 11 rfl rfl 0 (by decide) (List.mem_of_getElem? (i := 2) rfl) rfl (v := .ref si) rfl dX7_firstWrong_25 ?_
        refine lv_iload_n Z.1 Z.2.1 dX7_firstWrong_28 rfl (lv_at hl 2 rfl) ?_
        refine zk_lald Z hK G 12 rfl (k := k) (by omega) (by decide) (v := It k) rfl dX7_firstWrong_29 ?_
        refine lv_l2i (v := (It k).toInt32) Z.1 Z.2.1 dX7_firstWrong_30 rfl ?_
        refine lv_istore_n (lv' := [(3, .int ((It k).toInt32)), (0, .ref (a 0)), (1, .ref so), (2, .int (nI k))]) Z.1 Z.2.1 dX7_firstWrong_31 rfl hl (by decide) rfl (fun ls hl => ?_)
        refine lv_aload_n Z.1 Z.2.1 dX7_firstWrong_32 rfl (lv_at hl 2 rfl) ?_
        refine zk_get (C := RX4) (T := TX4) (N := 4) (ci := 4) Z hK G hinX4 11 rfl rfl 0 (by decide) (List.mem_of_getElem? (i := 2) rfl) rfl (v := .ref si) rfl dX7_firstWrong_33 ?_
        refine lv_iload_n Z.1 Z.2.1 dX7_firstWrong_36 rfl (lv_at hl 3 rfl) ?_
        refine lv_iconst (v := nI 1) Z.1 Z.2.1 dX7_firstWrong_37 (by decide +kernel) ?_
        refine zk_iadd Z dX7_firstWrong_38 (z := nI (k + 1)) (nI_add _ _) ?_
        refine zk_lald Z hK G 12 rfl (k := k + 1) (by omega) (by decide) (v := It (k + 1)) rfl dX7_firstWrong_39 ?_
        refine lv_l2i (v := (It (k + 1)).toInt32) Z.1 Z.2.1 dX7_firstWrong_40 rfl ?_
        refine lv_istore (lv' := [(4, .int ((It (k + 1)).toInt32)), (3, .int ((It k).toInt32)), (0, .ref (a 0)), (1, .ref so), (2, .int (nI k))]) Z.1 Z.2.1 dX7_firstWrong_41 hl (by decide) rfl (fun ls hl => ?_)
        refine lv_aload_n Z.1 Z.2.1 dX7_firstWrong_43 rfl (lv_at hl 3 rfl) ?_
        refine zk_get (C := RX4) (T := TX4) (N := 4) (ci := 4) Z hK G hinX4 11 rfl rfl 0 (by decide) (List.mem_of_getElem? (i := 2) rfl) rfl (v := .ref si) rfl dX7_firstWrong_44 ?_
        refine lv_iload_n Z.1 Z.2.1 dX7_firstWrong_47 rfl (lv_at hl 4 rfl) ?_
        refine lv_iconst (v := nI 2) Z.1 Z.2.1 dX7_firstWrong_48 (by decide +kernel) ?_
        refine zk_iadd Z dX7_firstWrong_49 (z := nI (k + 2)) (nI_add _ _) ?_
        refine zk_lald Z hK G 12 rfl (k := k + 2) (by omega) (by decide) (v := It (k + 2)) rfl dX7_firstWrong_50 ?_
        refine lv_l2i (v := (It (k + 2)).toInt32) Z.1 Z.2.1 dX7_firstWrong_51 rfl ?_
        refine lv_istore (lv' := [(5, .int ((It (k + 2)).toInt32)), (4, .int ((It (k + 1)).toInt32)), (3, .int ((It k).toInt32)), (0, .ref (a 0)), (1, .ref so), (2, .int (nI k))]) Z.1 Z.2.1 dX7_firstWrong_52 hl (by decide) rfl (fun ls hl => ?_)
        obtain ⟨t9, ht9⟩ : ∃ t9, t9 = (It k).toInt32 := ⟨_, rfl⟩
        obtain ⟨pq9, hpq9⟩ : ∃ pq9, pq9 = (It (k + 1)).toInt32 := ⟨_, rfl⟩
        obtain ⟨sw9, hsw9⟩ : ∃ sw9, sw9 = (It (k + 2)).toInt32 := ⟨_, rfl⟩
        have hl : lv_has ls 6 [(5, .int sw9), (4, .int pq9), (3, .int t9), (0, .ref (a 0)), (1, .ref so), (2, .int (nI k))] := by rw [ht9, hpq9, hsw9]; exact hl
        have hOK : zu_okw n (zs_meet (decide (0 < sz)) (zl_ev C X sz) P S Q hide) (It k).toInt32 (It (k + 1)).toInt32 (It (k + 2)).toInt32 = zu_okw n (zs_meet (decide (0 < sz)) (zl_ev C X sz) P S Q hide) t9 pq9 sw9 := by rw [ht9, hpq9, hsw9]
        refine lv_iload_n Z.1 Z.2.1 dX7_firstWrong_54 rfl (lv_at hl 2 rfl) ?_
        refine zk_ci (WF := fun (_ : Unit) => [(a 0, .inr (7, [.ref (a 1), .ref (a 2), .ref (a 3), .ref (a 4), .ref (a 50), .ref (a 60), .ref (a 7), .ref (a 8), .int (zk_b pic), .int (nI storm), .int chance])), (a 2, .inr (5, [.ref (a 20), .ref (a 21), .ref (a 22), .int (nI n), .int (nI hide), .ref (a 1), .ref (a 23), .ref (a 24), .int (nI ver), .int ew, .int (zk_b ek)])), (a 20, .inl (g 0, 7, .inl (fun i => nI (P i)))), (a 21, .inl (g 0, 7, .inl (fun i => nI (S i)))), (a 22, .inl (g 0, 7, .inl (fun i => nI (Q i)))), (a 23, .inl (g 2, 3024, .inl T1)), (a 1, .inr (2, [.ref (a 10), .ref (a 11), .ref (a 12), .ref kc, .ref kv, .ref kn, .ref km, .int (nI sz), .int ns, .int (nI ln), .int at1, .int ft])), (a 10, .inl (g 0, 6, .inl nm1)), (a 12, .inl (g 0, 128, .inl stk1)), (kc, .inl (g 0, 128, .inl (fun i => nI (C i)))), (kv, .inl (g 0, 128, .inl (fun i => nI (X i)))), (so, .inr (4, [.ref si, .int sort, .int (nI len), .int rel])), (si, .inl (g 1, 60, .inr (.inl It)))]) (wr := [(a 0, .inr (7, [.ref (a 1), .ref (a 2), .ref (a 3), .ref (a 4), .ref (a 50), .ref (a 60), .ref (a 7), .ref (a 8), .int (zk_b pic), .int (nI storm), .int chance])), (a 2, .inr (5, [.ref (a 20), .ref (a 21), .ref (a 22), .int (nI n), .int (nI hide), .ref (a 1), .ref (a 23), .ref (a 24), .int (nI ver), .int ew, .int (zk_b ek)])), (a 20, .inl (g 0, 7, .inl (fun i => nI (P i)))), (a 21, .inl (g 0, 7, .inl (fun i => nI (S i)))), (a 22, .inl (g 0, 7, .inl (fun i => nI (Q i)))), (a 23, .inl (g 2, 3024, .inl T1)), (a 1, .inr (2, [.ref (a 10), .ref (a 11), .ref (a 12), .ref kc, .ref kv, .ref kn, .ref km, .int (nI sz), .int ns, .int (nI ln), .int at1, .int ft])), (a 10, .inl (g 0, 6, .inl nm1)), (a 12, .inl (g 0, 128, .inl stk1)), (kc, .inl (g 0, 128, .inl (fun i => nI (C i)))), (kv, .inl (g 0, 128, .inl (fun i => nI (X i)))), (so, .inr (4, [.ref si, .int sort, .int (nI len), .int rel])), (si, .inl (g 1, 60, .inr (.inl It)))]) ⟨rfl, rfl⟩ (zk_rs (As := [.int t9]) (rest := []) Z ((ct_X7_isStep l D g τ t9 ) H.size) hK hT hA G [] rfl (by decide) gX7_firstWrong_X7_isStep rfl dvX7_isStep ⟨by decide, by decide⟩ rfl hl.1 rfl (Nat.le_of_ble_eq_true rfl) dX7_firstWrong_55 ⟨Nat.zero_le _, Nat.zero_le _⟩) hA G [] [0, 1, 2, 3, 4, 5, 6, 7, 8, 9, 10, 11, 12] [0, 1, 2, 3, 4, 5, 6, 7, 8, 9, 10, 11, 12] rfl rfl (by decide) (by decide) (by decide) (fun _ => rfl) (fun r_55 _ H locs w_55 G => ?_)
        obtain rfl : r_55 = zk_b (zb_s t9) := w_55
        refine lv_if_eq (tgt := 113) Z.1 Z.2.1 dX7_firstWrong_58 (by decide) (fun c58 => ?_) (fun c58 => ?_)
        · have c58 : zb_s t9 = false := zk_b0.mp c58
          refine lv_iload_n Z.1 Z.2.1 dX7_firstWrong_113 rfl (lv_at hl 5 rfl) ?_
          refine lv_iconst (v := nI 3) Z.1 Z.2.1 dX7_firstWrong_114 (by decide +kernel) ?_
          refine zk_idiv Z dX7_firstWrong_115 (nI_ne0 (by omega) (by omega)) (z := nI (k / 3)) (pk_div (by omega) (by omega) (by omega)) ?_
          have hokw : zu_okw n (zs_meet (decide (0 < sz)) (zl_ev C X sz) P S Q hide) (It k).toInt32 (It (k + 1)).toInt32 (It (k + 2)).toInt32 = false := by rw [hOK]; unfold zu_okw zu_01; simp only [c58, Bool.false_and, Bool.and_false]
          exact zk_reti Z hR_ hlk hK hQ G (T1, nm1, stk1) ⟨(by rw [← hV, ← hs]; simp only [zu_fw]; rw [if_pos c7, if_pos c17, if_neg (by rw [hokw]; decide)]), ho⟩ rfl dX7_firstWrong_116
        have c58 : zb_s t9 = true := zk_b1.mp c58
        have c58_0 := c58
        obtain ⟨u, hu, rfl, hu2⟩ := zb_s_ex c58
        refine lv_aload_n Z.1 Z.2.1 dX7_firstWrong_61 rfl (lv_at hl 3 rfl) ?_
        refine lv_iload Z.1 Z.2.1 dX7_firstWrong_62 (lv_at hl 1 rfl) ?_
        refine zk_ci (WF := fun (_ : Unit) => [(a 0, .inr (7, [.ref (a 1), .ref (a 2), .ref (a 3), .ref (a 4), .ref (a 50), .ref (a 60), .ref (a 7), .ref (a 8), .int (zk_b pic), .int (nI storm), .int chance])), (a 2, .inr (5, [.ref (a 20), .ref (a 21), .ref (a 22), .int (nI n), .int (nI hide), .ref (a 1), .ref (a 23), .ref (a 24), .int (nI ver), .int ew, .int (zk_b ek)])), (a 20, .inl (g 0, 7, .inl (fun i => nI (P i)))), (a 21, .inl (g 0, 7, .inl (fun i => nI (S i)))), (a 22, .inl (g 0, 7, .inl (fun i => nI (Q i)))), (a 23, .inl (g 2, 3024, .inl T1)), (a 1, .inr (2, [.ref (a 10), .ref (a 11), .ref (a 12), .ref kc, .ref kv, .ref kn, .ref km, .int (nI sz), .int ns, .int (nI ln), .int at1, .int ft])), (a 10, .inl (g 0, 6, .inl nm1)), (a 12, .inl (g 0, 128, .inl stk1)), (kc, .inl (g 0, 128, .inl (fun i => nI (C i)))), (kv, .inl (g 0, 128, .inl (fun i => nI (X i)))), (so, .inr (4, [.ref si, .int sort, .int (nI len), .int rel])), (si, .inl (g 1, 60, .inr (.inl It)))]) (wr := [(a 20, .inl (g 0, 7, .inl (fun i => nI (P i)))), (a 21, .inl (g 0, 7, .inl (fun i => nI (S i)))), (a 22, .inl (g 0, 7, .inl (fun i => nI (Q i)))), (a 23, .inl (g 2, 3024, .inl T1)), (a 1, .inr (2, [.ref (a 10), .ref (a 11), .ref (a 12), .ref kc, .ref kv, .ref kn, .ref km, .int (nI sz), .int ns, .int (nI ln), .int at1, .int ft])), (a 10, .inl (g 0, 6, .inl nm1)), (a 12, .inl (g 0, 128, .inl stk1)), (kc, .inl (g 0, 128, .inl (fun i => nI (C i)))), (kv, .inl (g 0, 128, .inl (fun i => nI (X i)))), (so, .inr (4, [.ref si, .int sort, .int (nI len), .int rel])), (si, .inl (g 1, 60, .inr (.inl It)))]) ⟨rfl, rfl⟩ (zk_rv (As := [.int pq9]) (rest := []) (q0 := 0) (ci := 7) Z ((ct_X7_isPair l D g τ a pic storm chance n hide ver ew ek pq9 (by omega)) H.size) hK hT hA G [0, 1] rfl (by decide) rfl rfl gX7_firstWrong_X7_isPair rfl dvX7_isPair ⟨by decide, by decide⟩ rfl hl.1 rfl (Nat.le_of_ble_eq_true rfl) dX7_firstWrong_64 ⟨Nat.zero_le _, Nat.zero_le _⟩) hA G [0, 1] [2, 3, 4, 5, 6, 7, 8, 9, 10, 11, 12] [11, 12, 0, 1, 2, 3, 4, 5, 6, 7, 8, 9, 10] rfl rfl (by decide) (by decide) (by decide) (fun _ => rfl) (fun r_64 _ H locs w_64 G => ?_)
        obtain rfl : r_64 = zk_b (zb_pair n pq9) := w_64
        refine lv_if_eq (tgt := 113) Z.1 Z.2.1 dX7_firstWrong_67 (by decide) (fun c67 => ?_) (fun c67 => ?_)
        · have c67 : zb_pair n pq9 = false := zk_b0.mp c67
          refine lv_iload_n Z.1 Z.2.1 dX7_firstWrong_113 rfl (lv_at hl 5 rfl) ?_
          refine lv_iconst (v := nI 3) Z.1 Z.2.1 dX7_firstWrong_114 (by decide +kernel) ?_
          refine zk_idiv Z dX7_firstWrong_115 (nI_ne0 (by omega) (by omega)) (z := nI (k / 3)) (pk_div (by omega) (by omega) (by omega)) ?_
          have hokw : zu_okw n (zs_meet (decide (0 < sz)) (zl_ev C X sz) P S Q hide) (It k).toInt32 (It (k + 1)).toInt32 (It (k + 2)).toInt32 = false := by rw [hOK]; unfold zu_okw zu_01; simp only [c67, Bool.false_and, Bool.and_false]
          exact zk_reti Z hR_ hlk hK hQ G (T1, nm1, stk1) ⟨(by rw [← hV, ← hs]; simp only [zu_fw]; rw [if_pos c7, if_pos c17, if_neg (by rw [hokw]; decide)]), ho⟩ rfl dX7_firstWrong_116
        have c67 : zb_pair n pq9 = true := zk_b1.mp c67
        have c67_0 := c67
        obtain ⟨j, hj, rfl, hj2⟩ := zb_pair_ex c67
        refine lv_iload Z.1 Z.2.1 dX7_firstWrong_70 (lv_at hl 0 rfl) ?_
        refine lv_if_lt (tgt := 113) Z.1 Z.2.1 dX7_firstWrong_72 (by decide) (fun c72 => ?_) (fun c72 => ?_)
        · have c72 : sw9 < 0 := c72
          refine lv_iload_n Z.1 Z.2.1 dX7_firstWrong_113 rfl (lv_at hl 5 rfl) ?_
          refine lv_iconst (v := nI 3) Z.1 Z.2.1 dX7_firstWrong_114 (by decide +kernel) ?_
          refine zk_idiv Z dX7_firstWrong_115 (nI_ne0 (by omega) (by omega)) (z := nI (k / 3)) (pk_div (by omega) (by omega) (by omega)) ?_
          have hokw : zu_okw n (zs_meet (decide (0 < sz)) (zl_ev C X sz) P S Q hide) (It k).toInt32 (It (k + 1)).toInt32 (It (k + 2)).toInt32 = false := by rw [hOK]; unfold zu_okw zu_01; simp only [decide_eq_false (fun q : ¬ sw9 < 0 => q c72), Bool.false_and, Bool.and_false]
          exact zk_reti Z hR_ hlk hK hQ G (T1, nm1, stk1) ⟨(by rw [← hV, ← hs]; simp only [zu_fw]; rw [if_pos c7, if_pos c17, if_neg (by rw [hokw]; decide)]), ho⟩ rfl dX7_firstWrong_116
        have c72 : ¬ sw9 < 0 := c72
        refine lv_iload Z.1 Z.2.1 dX7_firstWrong_75 (lv_at hl 0 rfl) ?_
        refine lv_iconst (v := nI 1) Z.1 Z.2.1 dX7_firstWrong_77 (by decide +kernel) ?_
        refine lv_icmp_gt (tgt := 113) Z.1 Z.2.1 dX7_firstWrong_78 (by decide) (fun c78 => ?_) (fun c78 => ?_)
        · have c78 : 1 < sw9 := c78
          refine lv_iload_n Z.1 Z.2.1 dX7_firstWrong_113 rfl (lv_at hl 5 rfl) ?_
          refine lv_iconst (v := nI 3) Z.1 Z.2.1 dX7_firstWrong_114 (by decide +kernel) ?_
          refine zk_idiv Z dX7_firstWrong_115 (nI_ne0 (by omega) (by omega)) (z := nI (k / 3)) (pk_div (by omega) (by omega) (by omega)) ?_
          have hokw : zu_okw n (zs_meet (decide (0 < sz)) (zl_ev C X sz) P S Q hide) (It k).toInt32 (It (k + 1)).toInt32 (It (k + 2)).toInt32 = false := by rw [hOK]; unfold zu_okw zu_01; simp only [decide_eq_false (Int32.not_le.mpr c78), Bool.false_and, Bool.and_false]
          exact zk_reti Z hR_ hlk hK hQ G (T1, nm1, stk1) ⟨(by rw [← hV, ← hs]; simp only [zu_fw]; rw [if_pos c7, if_pos c17, if_neg (by rw [hokw]; decide)]), ho⟩ rfl dX7_firstWrong_116
        have c78 : ¬ 1 < sw9 := c78
        refine lv_aload_n Z.1 Z.2.1 dX7_firstWrong_81 rfl (lv_at hl 3 rfl) ?_
        refine zk_get (C := RX7) (T := TX7) (N := 11) (ci := 7) Z hK G hinX7 0 rfl rfl 1 (by decide) (List.mem_of_getElem? (i := 3) rfl) rfl (v := .ref (a 2)) rfl dX7_firstWrong_82 ?_
        refine lv_iload Z.1 Z.2.1 dX7_firstWrong_85 (lv_at hl 1 rfl) ?_
        refine lv_bipush (v := nI 10) Z.1 Z.2.1 dX7_firstWrong_87 (by decide +kernel) ?_
        refine zk_idiv Z dX7_firstWrong_89 (nI_ne0 (by omega) (by omega)) (z := nI (j / 10)) (pk_div (by omega) (by omega) (by omega)) ?_
        refine lv_iload Z.1 Z.2.1 dX7_firstWrong_90 (lv_at hl 1 rfl) ?_
        refine lv_bipush (v := nI 10) Z.1 Z.2.1 dX7_firstWrong_92 (by decide +kernel) ?_
        refine zk_irem Z dX7_firstWrong_94 (nI_ne0 (by omega) (by omega)) (z := nI (j % 10)) (pk_rem (by omega) (by omega) (by omega)) ?_
        refine lv_iload_n Z.1 Z.2.1 dX7_firstWrong_95 rfl (lv_at hl 2 rfl) ?_
        refine zk_ci (WF := fun uu => [(a 0, .inr (7, [.ref (a 1), .ref (a 2), .ref (a 3), .ref (a 4), .ref (a 50), .ref (a 60), .ref (a 7), .ref (a 8), .int (zk_b pic), .int (nI storm), .int chance])), (a 2, .inr (5, [.ref (a 20), .ref (a 21), .ref (a 22), .int (nI n), .int (nI hide), .ref (a 1), .ref (a 23), .ref (a 24), .int (nI ver), .int ew, .int (zk_b ek)])), (a 20, .inl (g 0, 7, .inl (fun i => nI (P i)))), (a 21, .inl (g 0, 7, .inl (fun i => nI (S i)))), (a 22, .inl (g 0, 7, .inl (fun i => nI (Q i)))), (a 23, .inl (g 2, 3024, .inl uu.1)), (a 1, .inr (2, [.ref (a 10), .ref (a 11), .ref (a 12), .ref kc, .ref kv, .ref kn, .ref km, .int (nI sz), .int ns, .int (nI ln), .int at1, .int ft])), (a 10, .inl (g 0, 6, .inl uu.2.1)), (a 12, .inl (g 0, 128, .inl uu.2.2)), (kc, .inl (g 0, 128, .inl (fun i => nI (C i)))), (kv, .inl (g 0, 128, .inl (fun i => nI (X i)))), (so, .inr (4, [.ref si, .int sort, .int (nI len), .int rel])), (si, .inl (g 1, 60, .inr (.inl It)))]) (wr := [(a 0, .inr (7, [.ref (a 1), .ref (a 2), .ref (a 3), .ref (a 4), .ref (a 50), .ref (a 60), .ref (a 7), .ref (a 8), .int (zk_b pic), .int (nI storm), .int chance])), (so, .inr (4, [.ref si, .int sort, .int (nI len), .int rel])), (si, .inl (g 1, 60, .inr (.inl It)))]) ⟨rfl, rfl⟩ (zk_rv (As := [.int (nI (j / 10)), .int (nI (j % 10)), .int (nI u)]) (rest := []) (q0 := 1) (ci := 5) Z ((ct_X5_meet l D g τ a n hide ver ew ek P S Q T1 kc kv kn km sz ns ln at1 ft C X nm1 stk1 (j / 10) (j % 10) u (by exact hwf) (by omega) (by exact hW) (by exact hj2.1) (by exact hj2.2.1) (by exact hj2.2.2) (by omega) (by exact ho)) H.size) hK hT hA G [1, 2, 3, 4, 5, 6, 7, 8, 9, 10] rfl (by decide) rfl rfl gX7_firstWrong_X5_meet rfl dvX5_meet ⟨by decide, by decide⟩ rfl hl.1 rfl (Nat.le_of_ble_eq_true rfl) dX7_firstWrong_96 ⟨Nat.zero_le _, Nat.zero_le _⟩) hA G [1, 2, 3, 4, 5, 6, 7, 8, 9, 10] [0, 11, 12] [0, 3, 4, 5, 6, 7, 8, 9, 10, 11, 12, 1, 2] rfl rfl (by decide) (by decide) (by decide) (fun _ => rfl) (fun r_96 uu H locs w_96 G => ?_)
        obtain ⟨T1_96, nm1_96, stk1_96⟩ := uu
        have G : zk_G D aA [(a 0, .inr (7, [.ref (a 1), .ref (a 2), .ref (a 3), .ref (a 4), .ref (a 50), .ref (a 60), .ref (a 7), .ref (a 8), .int (zk_b pic), .int (nI storm), .int chance])), (a 2, .inr (5, [.ref (a 20), .ref (a 21), .ref (a 22), .int (nI n), .int (nI hide), .ref (a 1), .ref (a 23), .ref (a 24), .int (nI ver), .int ew, .int (zk_b ek)])), (a 20, .inl (g 0, 7, .inl (fun i => nI (P i)))), (a 21, .inl (g 0, 7, .inl (fun i => nI (S i)))), (a 22, .inl (g 0, 7, .inl (fun i => nI (Q i)))), (a 23, .inl (g 2, 3024, .inl T1_96)), (a 1, .inr (2, [.ref (a 10), .ref (a 11), .ref (a 12), .ref kc, .ref kv, .ref kn, .ref km, .int (nI sz), .int ns, .int (nI ln), .int at1, .int ft])), (a 10, .inl (g 0, 6, .inl nm1_96)), (a 12, .inl (g 0, 128, .inl stk1_96)), (kc, .inl (g 0, 128, .inl (fun i => nI (C i)))), (kv, .inl (g 0, 128, .inl (fun i => nI (X i)))), (so, .inr (4, [.ref si, .int sort, .int (nI len), .int rel])), (si, .inl (g 1, 60, .inr (.inl It)))] sS H locs := G
        obtain ⟨h0_96, w_96⟩ := w_96
        obtain rfl : r_96 = zk_b (zs_meet (decide (0 < sz)) (zl_ev C X sz) P S Q hide (j / 10) (j % 10) u) := h0_96
        have w_96 : zs_ok (decide (0 < sz)) (zl_ev C X sz) P Q hide n T1_96 := w_96
        refine lv_iload Z.1 Z.2.1 dX7_firstWrong_99 (lv_at hl 0 rfl) ?_
        refine lv_iconst (v := nI 1) Z.1 Z.2.1 dX7_firstWrong_101 (by decide +kernel) ?_
        refine lv_icmp_ne (tgt := 109) Z.1 Z.2.1 dX7_firstWrong_102 (by decide) (fun c102 => ?_) (fun c102 => ?_)
        · have c102 : ¬ sw9 = 1 := c102
          refine lv_iconst (v := nI 0) Z.1 Z.2.1 dX7_firstWrong_109 (by decide +kernel) ?_
          refine lv_icmp_eq (tgt := 117) Z.1 Z.2.1 dX7_firstWrong_110 (by decide) (fun c110 => ?_) (fun c110 => ?_)
          · have c110 : zk_b (zs_meet (decide (0 < sz)) (zl_ev C X sz) P S Q hide (j / 10) (j % 10) u) = 0 := c110
            have hokw : zu_okw n (zs_meet (decide (0 < sz)) (zl_ev C X sz) P S Q hide) (It k).toInt32 (It (k + 1)).toInt32 (It (k + 2)).toInt32 = true := by rw [hOK]; unfold zu_okw zu_01; rw [c58_0, c67_0, zu_pn hj, zu_qn hj, zb_nat hu, decide_eq_true c72, decide_eq_true (Int32.not_lt.mp c78)]; rw [decide_eq_false c102, zk_b0.mp c110]; rfl
            refine lv_iinc (v := nI (k + 3)) (lv' := [(2, .int (nI (k + 3))), (5, .int sw9), (4, .int (nI j)), (3, .int (nI u)), (0, .ref (a 0)), (1, .ref so)]) Z.1 Z.2.1 dX7_firstWrong_117 hl (k := 5) rfl (zk_inc k 3) (by decide) rfl (fun ls hl => ?_)
            refine lv_goto (tgt := 2) Z.1 Z.2.1 dX7_firstWrong_120 (by decide) ?_
            exact ih2 (k + 3) f9 T1_96 nm1_96 stk1_96 (by omega) (by omega) (by omega) (by simp only [zu_fw] at hs; rw [if_pos c7, if_pos c17, if_pos hokw] at hs; exact hs) (by exact w_96) _ _ _ G (lv_sub hl [4, 5, 0] rfl)
          have c110 : ¬ zk_b (zs_meet (decide (0 < sz)) (zl_ev C X sz) P S Q hide (j / 10) (j % 10) u) = 0 := c110
          have hokw : zu_okw n (zs_meet (decide (0 < sz)) (zl_ev C X sz) P S Q hide) (It k).toInt32 (It (k + 1)).toInt32 (It (k + 2)).toInt32 = false := by rw [hOK]; unfold zu_okw zu_01; rw [c58_0, c67_0, zu_pn hj, zu_qn hj, zb_nat hu, decide_eq_true c72, decide_eq_true (Int32.not_lt.mp c78)]; rw [decide_eq_false c102]; cases h9 : zs_meet (decide (0 < sz)) (zl_ev C X sz) P S Q hide (j / 10) (j % 10) u; exact absurd (zk_b0.mpr h9) c110; rfl
          refine lv_iload_n Z.1 Z.2.1 dX7_firstWrong_113 rfl (lv_at hl 5 rfl) ?_
          refine lv_iconst (v := nI 3) Z.1 Z.2.1 dX7_firstWrong_114 (by decide +kernel) ?_
          refine zk_idiv Z dX7_firstWrong_115 (nI_ne0 (by omega) (by omega)) (z := nI (k / 3)) (pk_div (by omega) (by omega) (by omega)) ?_
          exact zk_reti Z hR_ hlk hK hQ G (T1_96, nm1_96, stk1_96) ⟨(by rw [← hV, ← hs]; simp only [zu_fw]; rw [if_pos c7, if_pos c17, if_neg (by rw [hokw]; decide)]), w_96⟩ rfl dX7_firstWrong_116
        have c102 : sw9 = 1 := c102
        refine lv_iconst (v := nI 1) Z.1 Z.2.1 dX7_firstWrong_105 (by decide +kernel) ?_
        refine lv_goto (tgt := 110) Z.1 Z.2.1 dX7_firstWrong_106 (by decide) ?_
        refine lv_icmp_eq (tgt := 117) Z.1 Z.2.1 dX7_firstWrong_110 (by decide) (fun c110 => ?_) (fun c110 => ?_)
        · have c110 : zk_b (zs_meet (decide (0 < sz)) (zl_ev C X sz) P S Q hide (j / 10) (j % 10) u) = 1 := c110
          have hokw : zu_okw n (zs_meet (decide (0 < sz)) (zl_ev C X sz) P S Q hide) (It k).toInt32 (It (k + 1)).toInt32 (It (k + 2)).toInt32 = true := by rw [hOK]; unfold zu_okw zu_01; rw [c58_0, c67_0, zu_pn hj, zu_qn hj, zb_nat hu, decide_eq_true c72, decide_eq_true (Int32.not_lt.mp c78)]; rw [c102, zk_b_1.mp c110]; rfl
          refine lv_iinc (v := nI (k + 3)) (lv' := [(2, .int (nI (k + 3))), (5, .int sw9), (4, .int (nI j)), (3, .int (nI u)), (0, .ref (a 0)), (1, .ref so)]) Z.1 Z.2.1 dX7_firstWrong_117 hl (k := 5) rfl (zk_inc k 3) (by decide) rfl (fun ls hl => ?_)
          refine lv_goto (tgt := 2) Z.1 Z.2.1 dX7_firstWrong_120 (by decide) ?_
          exact ih2 (k + 3) f9 T1_96 nm1_96 stk1_96 (by omega) (by omega) (by omega) (by simp only [zu_fw] at hs; rw [if_pos c7, if_pos c17, if_pos hokw] at hs; exact hs) (by exact w_96) _ _ _ G (lv_sub hl [4, 5, 0] rfl)
        have c110 : ¬ zk_b (zs_meet (decide (0 < sz)) (zl_ev C X sz) P S Q hide (j / 10) (j % 10) u) = 1 := c110
        have hokw : zu_okw n (zs_meet (decide (0 < sz)) (zl_ev C X sz) P S Q hide) (It k).toInt32 (It (k + 1)).toInt32 (It (k + 2)).toInt32 = false := by rw [hOK]; unfold zu_okw zu_01; rw [c58_0, c67_0, zu_pn hj, zu_qn hj, zb_nat hu, decide_eq_true c72, decide_eq_true (Int32.not_lt.mp c78)]; rw [c102]; cases h9 : zs_meet (decide (0 < sz)) (zl_ev C X sz) P S Q hide (j / 10) (j % 10) u; rfl; exact absurd (zk_b_1.mpr h9) c110
        refine lv_iload_n Z.1 Z.2.1 dX7_firstWrong_113 rfl (lv_at hl 5 rfl) ?_
        refine lv_iconst (v := nI 3) Z.1 Z.2.1 dX7_firstWrong_114 (by decide +kernel) ?_
        refine zk_idiv Z dX7_firstWrong_115 (nI_ne0 (by omega) (by omega)) (z := nI (k / 3)) (pk_div (by omega) (by omega) (by omega)) ?_
        exact zk_reti Z hR_ hlk hK hQ G (T1_96, nm1_96, stk1_96) ⟨(by rw [← hV, ← hs]; simp only [zu_fw]; rw [if_pos c7, if_pos c17, if_neg (by rw [hokw]; decide)]), w_96⟩ rfl dX7_firstWrong_116
      have c17 : ¬ k + 3 ≤ len := fun q => c17 ((zu_le3 (by omega) (by omega)).mpr q)
      refine lv_iload_n Z.1 Z.2.1 dX7_firstWrong_20 rfl (lv_at hl 2 rfl) ?_
      refine lv_iconst (v := nI 3) Z.1 Z.2.1 dX7_firstWrong_21 (by decide +kernel) ?_
      refine zk_idiv Z dX7_firstWrong_22 (nI_ne0 (by omega) (by omega)) (z := nI (k / 3)) (pk_div (by omega) (by omega) (by omega)) ?_
      exact zk_reti Z hR_ hlk hK hQ G (T1, nm1, stk1) ⟨(by rw [← hV, ← hs]; simp only [zu_fw]; rw [if_pos c7, if_neg c17]), ho⟩ rfl dX7_firstWrong_23
  exact L2 _ 0 21 T nm stk (Nat.lt_succ_self _) (by omega) (by omega) (by exact hV.symm) (by exact hok) _ _ _ G (lv_sub hl [1, 2, 0] rfl)

abbrev rm_X7_startsThatFit : Room := { frames := 6, cells := 0, slots := 0, locals := 170 }
theorem dvX7_startsThatFit : zk_dv yX7_startsThatFit RX7 2 := by decide +kernel
set_option maxRecDepth 100000 in
set_option maxHeartbeats 4000000 in
theorem ct_X7_startsThatFit (l : Launch) (D : va_G) (g : Nat → ClassId) (τ : Nat → Nat) (a : Nat → Nat) (pic : Bool) (storm : Nat) (chance : Int32) (n : Nat) (hide : Nat) (ver : Nat) (ew : Int32) (ek : Bool) (P : Nat → Nat) (S : Nat → Nat) (Q : Nat → Nat) (T : Nat → Int32) (kc : Nat) (kv : Nat) (kn : Nat) (km : Nat) (sz : Nat) (ns : Int32) (ln : Nat) (at1 : Int32) (ft : Int32) (C : Nat → Nat) (X : Nat → Nat) (nm : Nat → Int32) (stk : Nat → Int32) (so : Nat) (si : Nat) (sort : Int32) (len : Nat) (rel : Int32) (It : Nat → Int64) (w9 : Nat) (hwf : zl_wf C X sz) (hhi : hide ≤ 180) (hW : zs_W n P S) (hok : zs_ok (decide (0 < sz)) (zl_ev C X sz) P Q hide n T) (hlen : len ≤ 60) (hw9 : w9 < n) : zk_MI l D g τ yX7_startsThatFit wsX7_startsThatFit rm_X7_startsThatFit [.ref (a 0), .ref so, .int (nI w9)] [(a 0, .inr (7, [.ref (a 1), .ref (a 2), .ref (a 3), .ref (a 4), .ref (a 50), .ref (a 60), .ref (a 7), .ref (a 8), .int (zk_b pic), .int (nI storm), .int chance])), (a 2, .inr (5, [.ref (a 20), .ref (a 21), .ref (a 22), .int (nI n), .int (nI hide), .ref (a 1), .ref (a 23), .ref (a 24), .int (nI ver), .int ew, .int (zk_b ek)])), (a 20, .inl (g 0, 7, .inl (fun i => nI (P i)))), (a 21, .inl (g 0, 7, .inl (fun i => nI (S i)))), (a 22, .inl (g 0, 7, .inl (fun i => nI (Q i)))), (a 23, .inl (g 2, 3024, .inl T)), (a 1, .inr (2, [.ref (a 10), .ref (a 11), .ref (a 12), .ref kc, .ref kv, .ref kn, .ref km, .int (nI sz), .int ns, .int (nI ln), .int at1, .int ft])), (a 10, .inl (g 0, 6, .inl nm)), (a 12, .inl (g 0, 128, .inl stk)), (kc, .inl (g 0, 128, .inl (fun i => nI (C i)))), (kv, .inl (g 0, 128, .inl (fun i => nI (X i)))), (so, .inr (4, [.ref si, .int sort, .int (nI len), .int rel])), (si, .inl (g 1, 60, .inr (.inl It)))] (fun (r : Int32) (uu : (Nat → Int32) × (Nat → Int32) × (Nat → Int32)) => (r = nI (zw (fun s => decide (zu_fw n (zs_meet (decide (0 < sz)) (zl_ev C X sz) P (zs_up S w9 s) Q hide) It len 21 0 = -2)) (P w9))) ∧ (zs_ok (decide (0 < sz)) (zl_ev C X sz) P Q hide n uu.1)) (fun (uu : (Nat → Int32) × (Nat → Int32) × (Nat → Int32)) => [(a 0, .inr (7, [.ref (a 1), .ref (a 2), .ref (a 3), .ref (a 4), .ref (a 50), .ref (a 60), .ref (a 7), .ref (a 8), .int (zk_b pic), .int (nI storm), .int chance])), (a 2, .inr (5, [.ref (a 20), .ref (a 21), .ref (a 22), .int (nI n), .int (nI hide), .ref (a 1), .ref (a 23), .ref (a 24), .int (nI ver), .int ew, .int (zk_b ek)])), (a 20, .inl (g 0, 7, .inl (fun i => nI (P i)))), (a 21, .inl (g 0, 7, .inl (fun i => nI (S i)))), (a 22, .inl (g 0, 7, .inl (fun i => nI (Q i)))), (a 23, .inl (g 2, 3024, .inl uu.1)), (a 1, .inr (2, [.ref (a 10), .ref (a 11), .ref (a 12), .ref kc, .ref kv, .ref kn, .ref km, .int (nI sz), .int ns, .int (nI ln), .int at1, .int ft])), (a 10, .inl (g 0, 6, .inl uu.2.1)), (a 12, .inl (g 0, 128, .inl uu.2.2)), (kc, .inl (g 0, 128, .inl (fun i => nI (C i)))), (kv, .inl (g 0, 128, .inl (fun i => nI (X i)))), (so, .inr (4, [.ref si, .int sort, .int (nI len), .int rel])), (si, .inl (g 1, 60, .inr (.inl It)))]) := by
  refine zk_of (Qc := fun A => va_Qi (fun (r : Int32) (uu : (Nat → Int32) × (Nat → Int32) × (Nat → Int32)) => (r = nI (zw (fun s => decide (zu_fw n (zs_meet (decide (0 < sz)) (zl_ev C X sz) P (zs_up S w9 s) Q hide) It len 21 0 = -2)) (P w9))) ∧ (zs_ok (decide (0 < sz)) (zl_ev C X sz) P Q hide n uu.1)) (zk_B D g A (fun (uu : (Nat → Int32) × (Nat → Int32) × (Nat → Int32)) => [(a 0, .inr (7, [.ref (a 1), .ref (a 2), .ref (a 3), .ref (a 4), .ref (a 50), .ref (a 60), .ref (a 7), .ref (a 8), .int (zk_b pic), .int (nI storm), .int chance])), (a 2, .inr (5, [.ref (a 20), .ref (a 21), .ref (a 22), .int (nI n), .int (nI hide), .ref (a 1), .ref (a 23), .ref (a 24), .int (nI ver), .int ew, .int (zk_b ek)])), (a 20, .inl (g 0, 7, .inl (fun i => nI (P i)))), (a 21, .inl (g 0, 7, .inl (fun i => nI (S i)))), (a 22, .inl (g 0, 7, .inl (fun i => nI (Q i)))), (a 23, .inl (g 2, 3024, .inl uu.1)), (a 1, .inr (2, [.ref (a 10), .ref (a 11), .ref (a 12), .ref kc, .ref kv, .ref kn, .ref km, .int (nI sz), .int ns, .int (nI ln), .int at1, .int ft])), (a 10, .inl (g 0, 6, .inl uu.2.1)), (a 12, .inl (g 0, 128, .inl uu.2.2)), (kc, .inl (g 0, 128, .inl (fun i => nI (C i)))), (kv, .inl (g 0, 128, .inl (fun i => nI (X i)))), (so, .inr (4, [.ref si, .int sort, .int (nI len), .int rel])), (si, .inl (g 1, 60, .inr (.inl It)))])) A) (cc := cX7_startsThatFit) (maxL := 6) (ret := (some .int)) (own := RX7) (by decide) rfl rfl (Nat.le_of_ble_eq_true rfl) ?_
  intro pP eE sS mM args below meth cC aA ls qQ Z hR_ hlk hnm hK hT hA hQ G hl
  have hinX5 : ∀ w ∈ u_ws RX5 TX5 11, w ∈ wsX7_startsThatFit := (fun _ h => List.mem_cons_of_mem _ (List.mem_append_left _ (List.mem_append_left _ (List.mem_append_right _ h))))
  have hinX7 : ∀ w ∈ u_ws RX7 TX7 11, w ∈ wsX7_startsThatFit := (fun _ h => List.mem_cons_of_mem _ (List.mem_append_left _ (List.mem_append_left _ (List.mem_append_left _ (List.mem_append_right _ h)))))
  have hn := hW.1
  have wq := hW.2 w9 hw9
  refine lv_aload_n Z.1 Z.2.1 dX7_startsThatFit_0 rfl (lv_at hl 0 rfl) ?_
  refine zk_get (C := RX7) (T := TX7) (N := 11) (ci := 7) Z hK G hinX7 0 rfl rfl 1 (by decide) (List.mem_of_getElem? (i := 1) rfl) rfl (v := .ref (a 2)) rfl dX7_startsThatFit_1 ?_
  refine zk_get (C := RX5) (T := TX5) (N := 11) (ci := 5) Z hK G hinX5 1 rfl rfl 1 (by decide) (List.mem_of_getElem? (i := 2) rfl) rfl (v := .ref (a 21)) rfl dX7_startsThatFit_4 ?_
  refine lv_iload_n Z.1 Z.2.1 dX7_startsThatFit_7 rfl (lv_at hl 2 rfl) ?_
  refine zk_iald Z hK G 3 rfl (k := w9) (by omega) (by decide) (v := nI (S w9)) rfl dX7_startsThatFit_8 ?_
  refine lv_istore_n (lv' := [(3, .int (nI (S w9))), (0, .ref (a 0)), (1, .ref so), (2, .int (nI w9))]) Z.1 Z.2.1 dX7_startsThatFit_9 rfl hl (by decide) rfl (fun ls hl => ?_)
  refine lv_iconst (v := nI 0) Z.1 Z.2.1 dX7_startsThatFit_10 (by decide +kernel) ?_
  refine lv_istore (lv' := [(4, .int (nI 0)), (3, .int (nI (S w9))), (0, .ref (a 0)), (1, .ref so), (2, .int (nI w9))]) Z.1 Z.2.1 dX7_startsThatFit_11 hl (by decide) rfl (fun ls hl => ?_)
  have G : zk_G D aA [(a 0, .inr (7, [.ref (a 1), .ref (a 2), .ref (a 3), .ref (a 4), .ref (a 50), .ref (a 60), .ref (a 7), .ref (a 8), .int (zk_b pic), .int (nI storm), .int chance])), (a 2, .inr (5, [.ref (a 20), .ref (a 21), .ref (a 22), .int (nI n), .int (nI hide), .ref (a 1), .ref (a 23), .ref (a 24), .int (nI ver), .int ew, .int (zk_b ek)])), (a 20, .inl (g 0, 7, .inl (fun i => nI (P i)))), (a 21, .inl (g 0, 7, .inl (fun i => nI (zs_up S w9 (S w9) i)))), (a 22, .inl (g 0, 7, .inl (fun i => nI (Q i)))), (a 23, .inl (g 2, 3024, .inl T)), (a 1, .inr (2, [.ref (a 10), .ref (a 11), .ref (a 12), .ref kc, .ref kv, .ref kn, .ref km, .int (nI sz), .int ns, .int (nI ln), .int at1, .int ft])), (a 10, .inl (g 0, 6, .inl nm)), (a 12, .inl (g 0, 128, .inl stk)), (kc, .inl (g 0, 128, .inl (fun i => nI (C i)))), (kv, .inl (g 0, 128, .inl (fun i => nI (X i)))), (so, .inr (4, [.ref si, .int sort, .int (nI len), .int rel])), (si, .inl (g 1, 60, .inr (.inl It)))] sS sS.heap [] := (by rw [zs_up_id]; exact G)
  refine lv_iconst (v := nI 0) Z.1 Z.2.1 dX7_startsThatFit_13 (by decide +kernel) ?_
  refine lv_istore (lv' := [(5, .int (nI 0)), (4, .int (nI 0)), (3, .int (nI (S w9))), (0, .ref (a 0)), (1, .ref so), (2, .int (nI w9))]) Z.1 Z.2.1 dX7_startsThatFit_14 hl (by decide) rfl (fun ls hl => ?_)
  have L16 : ∀ (nN : Nat) (s : Nat) (x9 : Nat) (T1 : Nat → Int32) (nm1 : Nat → Int32) (stk1 : Nat → Int32), P w9 - s < nN → (s ≤ P w9) → (zs_ok (decide (0 < sz)) (zl_ev C X sz) P Q hide n T1) → ∀ (H : Heap) (locs : List Loc) (ls : Array Slot), zk_G D aA [(a 0, .inr (7, [.ref (a 1), .ref (a 2), .ref (a 3), .ref (a 4), .ref (a 50), .ref (a 60), .ref (a 7), .ref (a 8), .int (zk_b pic), .int (nI storm), .int chance])), (a 2, .inr (5, [.ref (a 20), .ref (a 21), .ref (a 22), .int (nI n), .int (nI hide), .ref (a 1), .ref (a 23), .ref (a 24), .int (nI ver), .int ew, .int (zk_b ek)])), (a 20, .inl (g 0, 7, .inl (fun i => nI (P i)))), (a 21, .inl (g 0, 7, .inl (fun i => nI ((zs_up S w9 x9) i)))), (a 22, .inl (g 0, 7, .inl (fun i => nI (Q i)))), (a 23, .inl (g 2, 3024, .inl T1)), (a 1, .inr (2, [.ref (a 10), .ref (a 11), .ref (a 12), .ref kc, .ref kv, .ref kn, .ref km, .int (nI sz), .int ns, .int (nI ln), .int at1, .int ft])), (a 10, .inl (g 0, 6, .inl nm1)), (a 12, .inl (g 0, 128, .inl stk1)), (kc, .inl (g 0, 128, .inl (fun i => nI (C i)))), (kv, .inl (g 0, 128, .inl (fun i => nI (X i)))), (so, .inr (4, [.ref si, .int sort, .int (nI len), .int rel])), (si, .inl (g 1, 60, .inr (.inl It)))] sS H locs → lv_has ls 6 [(0, .ref (a 0)), (1, .ref so), (2, .int (nI w9)), (3, .int (nI (S w9))), (4, .int (nI (zw (fun s => decide (zu_fw n (zs_meet (decide (0 < sz)) (zl_ev C X sz) P (zs_up S w9 s) Q hide) It len 21 0 = -2)) s))), (5, .int (nI s))] → W pP l eE rm_X7_startsThatFit sS mM args below meth cC H locs 0 0 qQ (F0 mM 16 ls []) := by
    intro nN
    induction nN with
    | zero => intros; omega
    | succ nN ih16 =>
      intro s x9 T1 nm1 stk1 hμ h1 ho H locs ls G hl
      refine lv_iload Z.1 Z.2.1 dX7_startsThatFit_16 (lv_at hl 5 rfl) ?_
      refine lv_aload_n Z.1 Z.2.1 dX7_startsThatFit_18 rfl (lv_at hl 0 rfl) ?_
      refine zk_get (C := RX7) (T := TX7) (N := 11) (ci := 7) Z hK G hinX7 0 rfl rfl 1 (by decide) (List.mem_of_getElem? (i := 1) rfl) rfl (v := .ref (a 2)) rfl dX7_startsThatFit_19 ?_
      refine zk_get (C := RX5) (T := TX5) (N := 11) (ci := 5) Z hK G hinX5 1 rfl rfl 0 (by decide) (List.mem_of_getElem? (i := 3) rfl) rfl (v := .ref (a 20)) rfl dX7_startsThatFit_22 ?_
      refine lv_iload_n Z.1 Z.2.1 dX7_startsThatFit_25 rfl (lv_at hl 2 rfl) ?_
      refine zk_iald Z hK G 2 rfl (k := w9) (by omega) (by decide) (v := nI (P w9)) rfl dX7_startsThatFit_26 ?_
      refine lv_icmp_ge (tgt := 66) Z.1 Z.2.1 dX7_startsThatFit_27 (by decide) (fun c27 => ?_) (fun c27 => ?_)
      · have c27 : P w9 ≤ s := zk_le (by omega) (by omega) c27
        refine lv_aload_n Z.1 Z.2.1 dX7_startsThatFit_66 rfl (lv_at hl 0 rfl) ?_
        refine zk_get (C := RX7) (T := TX7) (N := 11) (ci := 7) Z hK G hinX7 0 rfl rfl 1 (by decide) (List.mem_of_getElem? (i := 1) rfl) rfl (v := .ref (a 2)) rfl dX7_startsThatFit_67 ?_
        refine zk_get (C := RX5) (T := TX5) (N := 11) (ci := 5) Z hK G hinX5 1 rfl rfl 1 (by decide) (List.mem_of_getElem? (i := 2) rfl) rfl (v := .ref (a 21)) rfl dX7_startsThatFit_70 ?_
        refine lv_iload_n Z.1 Z.2.1 dX7_startsThatFit_73 rfl (lv_at hl 2 rfl) ?_
        refine lv_iload_n Z.1 Z.2.1 dX7_startsThatFit_74 rfl (lv_at hl 3 rfl) ?_
        refine zk_iast Z hK G 3 rfl (k := w9) (by omega) (by decide) ((zs_up_n _ _ _).trans (by rw [zs_up_up, zs_up_id])) (ws' := [(a 0, .inr (7, [.ref (a 1), .ref (a 2), .ref (a 3), .ref (a 4), .ref (a 50), .ref (a 60), .ref (a 7), .ref (a 8), .int (zk_b pic), .int (nI storm), .int chance])), (a 2, .inr (5, [.ref (a 20), .ref (a 21), .ref (a 22), .int (nI n), .int (nI hide), .ref (a 1), .ref (a 23), .ref (a 24), .int (nI ver), .int ew, .int (zk_b ek)])), (a 20, .inl (g 0, 7, .inl (fun i => nI (P i)))), (a 21, .inl (g 0, 7, .inl (fun i => nI (S i)))), (a 22, .inl (g 0, 7, .inl (fun i => nI (Q i)))), (a 23, .inl (g 2, 3024, .inl T1)), (a 1, .inr (2, [.ref (a 10), .ref (a 11), .ref (a 12), .ref kc, .ref kv, .ref kn, .ref km, .int (nI sz), .int ns, .int (nI ln), .int at1, .int ft])), (a 10, .inl (g 0, 6, .inl nm1)), (a 12, .inl (g 0, 128, .inl stk1)), (kc, .inl (g 0, 128, .inl (fun i => nI (C i)))), (kv, .inl (g 0, 128, .inl (fun i => nI (X i)))), (so, .inr (4, [.ref si, .int sort, .int (nI len), .int rel])), (si, .inl (g 1, 60, .inr (.inl It)))]) rfl dX7_startsThatFit_75 (fun H locs G => ?_)
        refine lv_iload Z.1 Z.2.1 dX7_startsThatFit_76 (lv_at hl 4 rfl) ?_
        exact zk_reti Z hR_ hlk hK hQ G (T1, nm1, stk1) ⟨congrArg nI (by rw [show s = P w9 by omega]), ho⟩ rfl dX7_startsThatFit_78
      have c27 : s < P w9 := zk_nle (by omega) (by omega) c27
      refine lv_aload_n Z.1 Z.2.1 dX7_startsThatFit_30 rfl (lv_at hl 0 rfl) ?_
      refine zk_get (C := RX7) (T := TX7) (N := 11) (ci := 7) Z hK G hinX7 0 rfl rfl 1 (by decide) (List.mem_of_getElem? (i := 1) rfl) rfl (v := .ref (a 2)) rfl dX7_startsThatFit_31 ?_
      refine zk_get (C := RX5) (T := TX5) (N := 11) (ci := 5) Z hK G hinX5 1 rfl rfl 1 (by decide) (List.mem_of_getElem? (i := 2) rfl) rfl (v := .ref (a 21)) rfl dX7_startsThatFit_34 ?_
      refine lv_iload_n Z.1 Z.2.1 dX7_startsThatFit_37 rfl (lv_at hl 2 rfl) ?_
      refine lv_iload Z.1 Z.2.1 dX7_startsThatFit_38 (lv_at hl 5 rfl) ?_
      refine zk_iast Z hK G 3 rfl (k := w9) (by omega) (by decide) ((zs_up_n _ _ _).trans (by rw [zs_up_up])) (ws' := [(a 0, .inr (7, [.ref (a 1), .ref (a 2), .ref (a 3), .ref (a 4), .ref (a 50), .ref (a 60), .ref (a 7), .ref (a 8), .int (zk_b pic), .int (nI storm), .int chance])), (a 2, .inr (5, [.ref (a 20), .ref (a 21), .ref (a 22), .int (nI n), .int (nI hide), .ref (a 1), .ref (a 23), .ref (a 24), .int (nI ver), .int ew, .int (zk_b ek)])), (a 20, .inl (g 0, 7, .inl (fun i => nI (P i)))), (a 21, .inl (g 0, 7, .inl (fun i => nI (zs_up S w9 s i)))), (a 22, .inl (g 0, 7, .inl (fun i => nI (Q i)))), (a 23, .inl (g 2, 3024, .inl T1)), (a 1, .inr (2, [.ref (a 10), .ref (a 11), .ref (a 12), .ref kc, .ref kv, .ref kn, .ref km, .int (nI sz), .int ns, .int (nI ln), .int at1, .int ft])), (a 10, .inl (g 0, 6, .inl nm1)), (a 12, .inl (g 0, 128, .inl stk1)), (kc, .inl (g 0, 128, .inl (fun i => nI (C i)))), (kv, .inl (g 0, 128, .inl (fun i => nI (X i)))), (so, .inr (4, [.ref si, .int sort, .int (nI len), .int rel])), (si, .inl (g 1, 60, .inr (.inl It)))]) rfl dX7_startsThatFit_40 (fun H locs G => ?_)
      refine lv_aload_n Z.1 Z.2.1 dX7_startsThatFit_41 rfl (lv_at hl 0 rfl) ?_
      refine lv_aload_n Z.1 Z.2.1 dX7_startsThatFit_42 rfl (lv_at hl 1 rfl) ?_
      refine zk_ci (WF := fun uu => [(a 0, .inr (7, [.ref (a 1), .ref (a 2), .ref (a 3), .ref (a 4), .ref (a 50), .ref (a 60), .ref (a 7), .ref (a 8), .int (zk_b pic), .int (nI storm), .int chance])), (a 2, .inr (5, [.ref (a 20), .ref (a 21), .ref (a 22), .int (nI n), .int (nI hide), .ref (a 1), .ref (a 23), .ref (a 24), .int (nI ver), .int ew, .int (zk_b ek)])), (a 20, .inl (g 0, 7, .inl (fun i => nI (P i)))), (a 21, .inl (g 0, 7, .inl (fun i => nI (zs_up S w9 s i)))), (a 22, .inl (g 0, 7, .inl (fun i => nI (Q i)))), (a 23, .inl (g 2, 3024, .inl uu.1)), (a 1, .inr (2, [.ref (a 10), .ref (a 11), .ref (a 12), .ref kc, .ref kv, .ref kn, .ref km, .int (nI sz), .int ns, .int (nI ln), .int at1, .int ft])), (a 10, .inl (g 0, 6, .inl uu.2.1)), (a 12, .inl (g 0, 128, .inl uu.2.2)), (kc, .inl (g 0, 128, .inl (fun i => nI (C i)))), (kv, .inl (g 0, 128, .inl (fun i => nI (X i)))), (so, .inr (4, [.ref si, .int sort, .int (nI len), .int rel])), (si, .inl (g 1, 60, .inr (.inl It)))]) (wr := []) ⟨rfl, rfl⟩ (zk_rv (As := [.ref so]) (rest := []) (q0 := 0) (ci := 7) Z ((ct_X7_firstWrong l D g τ a pic storm chance n hide ver ew ek P (zs_up S w9 s) Q T1 kc kv kn km sz ns ln at1 ft C X nm1 stk1 so si sort len rel It (by exact hwf) (by omega) (by exact zs_W_up hW (by omega)) (by exact ho) (by omega)) H.size) hK hT hA G [0, 1, 2, 3, 4, 5, 6, 7, 8, 9, 10, 11, 12] rfl (by decide) rfl rfl gX7_startsThatFit_X7_firstWrong rfl dvX7_firstWrong ⟨by decide, by decide⟩ rfl hl.1 rfl (Nat.le_of_ble_eq_true rfl) dX7_startsThatFit_43 ⟨Nat.zero_le _, Nat.zero_le _⟩) hA G [0, 1, 2, 3, 4, 5, 6, 7, 8, 9, 10, 11, 12] [] [0, 1, 2, 3, 4, 5, 6, 7, 8, 9, 10, 11, 12] rfl rfl (by decide) (by decide) (by decide) (fun _ => rfl) (fun r_43 uu H locs w_43 G => ?_)
      obtain ⟨T1_43, nm1_43, stk1_43⟩ := uu
      have G : zk_G D aA [(a 0, .inr (7, [.ref (a 1), .ref (a 2), .ref (a 3), .ref (a 4), .ref (a 50), .ref (a 60), .ref (a 7), .ref (a 8), .int (zk_b pic), .int (nI storm), .int chance])), (a 2, .inr (5, [.ref (a 20), .ref (a 21), .ref (a 22), .int (nI n), .int (nI hide), .ref (a 1), .ref (a 23), .ref (a 24), .int (nI ver), .int ew, .int (zk_b ek)])), (a 20, .inl (g 0, 7, .inl (fun i => nI (P i)))), (a 21, .inl (g 0, 7, .inl (fun i => nI (zs_up S w9 s i)))), (a 22, .inl (g 0, 7, .inl (fun i => nI (Q i)))), (a 23, .inl (g 2, 3024, .inl T1_43)), (a 1, .inr (2, [.ref (a 10), .ref (a 11), .ref (a 12), .ref kc, .ref kv, .ref kn, .ref km, .int (nI sz), .int ns, .int (nI ln), .int at1, .int ft])), (a 10, .inl (g 0, 6, .inl nm1_43)), (a 12, .inl (g 0, 128, .inl stk1_43)), (kc, .inl (g 0, 128, .inl (fun i => nI (C i)))), (kv, .inl (g 0, 128, .inl (fun i => nI (X i)))), (so, .inr (4, [.ref si, .int sort, .int (nI len), .int rel])), (si, .inl (g 1, 60, .inr (.inl It)))] sS H locs := G
      obtain ⟨h0_43, w_43⟩ := w_43
      obtain rfl : r_43 = zu_fw n (zs_meet (decide (0 < sz)) (zl_ev C X sz) P (zs_up S w9 s) Q hide) It len 21 0 := h0_43
      have w_43 : zs_ok (decide (0 < sz)) (zl_ev C X sz) P Q hide n T1_43 := w_43
      refine lv_bipush (v := (-2)) Z.1 Z.2.1 dX7_startsThatFit_46 (by decide +kernel) ?_
      refine lv_icmp_ne (tgt := 60) Z.1 Z.2.1 dX7_startsThatFit_48 (by decide) (fun c48 => ?_) (fun c48 => ?_)
      · have c48 : ¬ zu_fw n (zs_meet (decide (0 < sz)) (zl_ev C X sz) P (zs_up S w9 s) Q hide) It len 21 0 = (-2) := c48
        have e_1 : zw (fun s => decide (zu_fw n (zs_meet (decide (0 < sz)) (zl_ev C X sz) P (zs_up S w9 s) Q hide) It len 21 0 = -2)) s = zw (fun s => decide (zu_fw n (zs_meet (decide (0 < sz)) (zl_ev C X sz) P (zs_up S w9 s) Q hide) It len 21 0 = -2)) (s + 1) := by simp only [zw]; rw [if_neg (fun q9 => c48 (of_decide_eq_true q9)), Nat.add_zero]
        have hl : lv_has ls 6 [(0, .ref (a 0)), (1, .ref so), (2, .int (nI w9)), (3, .int (nI (S w9))), (4, .int (nI (zw (fun s => decide (zu_fw n (zs_meet (decide (0 < sz)) (zl_ev C X sz) P (zs_up S w9 s) Q hide) It len 21 0 = -2)) (s + 1)))), (5, .int (nI s))] := by rw [← e_1]; exact hl
        refine lv_iinc (v := nI (s + 1)) (lv' := [(5, .int (nI (s + 1))), (0, .ref (a 0)), (1, .ref so), (2, .int (nI w9)), (3, .int (nI (S w9))), (4, .int (nI (zw (fun s => decide (zu_fw n (zs_meet (decide (0 < sz)) (zl_ev C X sz) P (zs_up S w9 s) Q hide) It len 21 0 = -2)) (s + 1))))]) Z.1 Z.2.1 dX7_startsThatFit_60 hl (k := 5) rfl (zk_inc s 1) (by decide) rfl (fun ls hl => ?_)
        refine lv_goto (tgt := 16) Z.1 Z.2.1 dX7_startsThatFit_63 (by decide) ?_
        exact ih16 (s + 1) s T1_43 nm1_43 stk1_43 (by omega) (by omega) (by exact w_43) _ _ _ G (lv_sub hl [1, 2, 3, 4, 5, 0] rfl)
      have c48 : zu_fw n (zs_meet (decide (0 < sz)) (zl_ev C X sz) P (zs_up S w9 s) Q hide) It len 21 0 = (-2) := c48
      refine lv_iload Z.1 Z.2.1 dX7_startsThatFit_51 (lv_at hl 4 rfl) ?_
      refine lv_iconst (v := nI 1) Z.1 Z.2.1 dX7_startsThatFit_53 (by decide +kernel) ?_
      refine lv_iload Z.1 Z.2.1 dX7_startsThatFit_54 (lv_at hl 5 rfl) ?_
      refine zk_ishl Z dX7_startsThatFit_56 (z := nI (2 ^ s)) (zw_1 (by omega)) ?_
      refine zk_ior Z dX7_startsThatFit_57 (z := nI (zw (fun s => decide (zu_fw n (zs_meet (decide (0 < sz)) (zl_ev C X sz) P (zs_up S w9 s) Q hide) It len 21 0 = -2)) s ||| 2 ^ s)) (zw_or _ _) ?_
      refine lv_istore (lv' := [(4, .int (nI (zw (fun s => decide (zu_fw n (zs_meet (decide (0 < sz)) (zl_ev C X sz) P (zs_up S w9 s) Q hide) It len 21 0 = -2)) s ||| 2 ^ s))), (0, .ref (a 0)), (1, .ref so), (2, .int (nI w9)), (3, .int (nI (S w9))), (5, .int (nI s))]) Z.1 Z.2.1 dX7_startsThatFit_58 hl (by decide) rfl (fun ls hl => ?_)
      have e_2 : zw (fun s => decide (zu_fw n (zs_meet (decide (0 < sz)) (zl_ev C X sz) P (zs_up S w9 s) Q hide) It len 21 0 = -2)) s ||| 2 ^ s = zw (fun s => decide (zu_fw n (zs_meet (decide (0 < sz)) (zl_ev C X sz) P (zs_up S w9 s) Q hide) It len 21 0 = -2)) (s + 1) := by rw [zw_or1]; simp only [zw]; rw [if_pos (decide_eq_true c48)]
      have hl : lv_has ls 6 [(4, .int (nI (zw (fun s => decide (zu_fw n (zs_meet (decide (0 < sz)) (zl_ev C X sz) P (zs_up S w9 s) Q hide) It len 21 0 = -2)) (s + 1)))), (0, .ref (a 0)), (1, .ref so), (2, .int (nI w9)), (3, .int (nI (S w9))), (5, .int (nI s))] := by rw [← e_2]; exact hl
      refine lv_iinc (v := nI (s + 1)) (lv' := [(5, .int (nI (s + 1))), (4, .int (nI (zw (fun s => decide (zu_fw n (zs_meet (decide (0 < sz)) (zl_ev C X sz) P (zs_up S w9 s) Q hide) It len 21 0 = -2)) (s + 1)))), (0, .ref (a 0)), (1, .ref so), (2, .int (nI w9)), (3, .int (nI (S w9)))]) Z.1 Z.2.1 dX7_startsThatFit_60 hl (k := 5) rfl (zk_inc s 1) (by decide) rfl (fun ls hl => ?_)
      refine lv_goto (tgt := 16) Z.1 Z.2.1 dX7_startsThatFit_63 (by decide) ?_
      exact ih16 (s + 1) s T1_43 nm1_43 stk1_43 (by omega) (by omega) (by exact w_43) _ _ _ G (lv_sub hl [2, 3, 4, 5, 1, 0] rfl)
  exact L16 _ 0 (S w9) T nm stk (Nat.lt_succ_self _) (by omega) (by exact hok) _ _ _ G (lv_sub hl [3, 4, 5, 2, 1, 0] rfl)

abbrev rm_X7_of : Room := { frames := 4, cells := 0, slots := 0, locals := 91 }
theorem dvX7_of : zk_dv yX7_of RX7 2 := by decide +kernel
set_option maxRecDepth 100000 in
set_option maxHeartbeats 4000000 in
theorem ct_X7_of (l : Launch) (D : va_G) (g : Nat → ClassId) (τ : Nat → Nat) (a : Nat → Nat) (pic : Bool) (storm : Nat) (chance : Int32) (n : Nat) (hide : Nat) (ver : Nat) (ew : Int32) (ek : Bool) (P : Nat → Nat) (S : Nat → Nat) (Q : Nat → Nat) (us : Nat) (ut : Nat) (uh : Nat) (ua : Nat) (ul : Nat) (nw : Nat) (m1 : Nat) (Ld : Nat → Nat) (Sn : Nat → Nat) (Tg : Nat → Nat) (Hd : Nat → Int32) (Av : Nat → Int32) (number : Int32) (what : Int32) (hW : zs_W n P S) (hn6 : n ≤ 6) (hm : m1 ≤ 10) (hnw : nw < 2 ^ 30) : zk_MI l D g τ yX7_of wsX7_of rm_X7_of [.ref (a 0), .int number, .int what] [(a 0, .inr (7, [.ref (a 1), .ref (a 2), .ref (a 3), .ref (a 4), .ref (a 50), .ref (a 60), .ref (a 7), .ref (a 8), .int (zk_b pic), .int (nI storm), .int chance])), (a 2, .inr (5, [.ref (a 20), .ref (a 21), .ref (a 22), .int (nI n), .int (nI hide), .ref (a 1), .ref (a 23), .ref (a 24), .int (nI ver), .int ew, .int (zk_b ek)])), (a 20, .inl (g 0, 7, .inl (fun i => nI (P i)))), (a 21, .inl (g 0, 7, .inl (fun i => nI (S i)))), (a 22, .inl (g 0, 7, .inl (fun i => nI (Q i)))), (a 50, .inr (1, [.int (nI nw), .int (nI m1), .ref us, .ref ut, .ref uh, .ref ua, .ref ul])), (us, .inl (g 0, 10, .inl (fun i => nI (Sn i)))), (ut, .inl (g 0, 10, .inl (fun i => nI (Tg i)))), (uh, .inl (g 0, 10, .inl Hd)), (ua, .inl (g 0, 10, .inl Av)), (ul, .inl (g 0, 6, .inl (fun i => nI (Ld i))))] (fun (r : Int32) (_ : Unit) => r = zu_of n P S Q hide storm nw m1 Ld Sn Tg Hd Av number what) (fun (_ : Unit) => [(a 0, .inr (7, [.ref (a 1), .ref (a 2), .ref (a 3), .ref (a 4), .ref (a 50), .ref (a 60), .ref (a 7), .ref (a 8), .int (zk_b pic), .int (nI storm), .int chance])), (a 2, .inr (5, [.ref (a 20), .ref (a 21), .ref (a 22), .int (nI n), .int (nI hide), .ref (a 1), .ref (a 23), .ref (a 24), .int (nI ver), .int ew, .int (zk_b ek)])), (a 20, .inl (g 0, 7, .inl (fun i => nI (P i)))), (a 21, .inl (g 0, 7, .inl (fun i => nI (S i)))), (a 22, .inl (g 0, 7, .inl (fun i => nI (Q i)))), (a 50, .inr (1, [.int (nI nw), .int (nI m1), .ref us, .ref ut, .ref uh, .ref ua, .ref ul])), (us, .inl (g 0, 10, .inl (fun i => nI (Sn i)))), (ut, .inl (g 0, 10, .inl (fun i => nI (Tg i)))), (uh, .inl (g 0, 10, .inl Hd)), (ua, .inl (g 0, 10, .inl Av)), (ul, .inl (g 0, 6, .inl (fun i => nI (Ld i))))]) := by
  refine zk_of (Qc := fun A => va_Qi (fun (r : Int32) (_ : Unit) => r = zu_of n P S Q hide storm nw m1 Ld Sn Tg Hd Av number what) (zk_B D g A (fun (_ : Unit) => [(a 0, .inr (7, [.ref (a 1), .ref (a 2), .ref (a 3), .ref (a 4), .ref (a 50), .ref (a 60), .ref (a 7), .ref (a 8), .int (zk_b pic), .int (nI storm), .int chance])), (a 2, .inr (5, [.ref (a 20), .ref (a 21), .ref (a 22), .int (nI n), .int (nI hide), .ref (a 1), .ref (a 23), .ref (a 24), .int (nI ver), .int ew, .int (zk_b ek)])), (a 20, .inl (g 0, 7, .inl (fun i => nI (P i)))), (a 21, .inl (g 0, 7, .inl (fun i => nI (S i)))), (a 22, .inl (g 0, 7, .inl (fun i => nI (Q i)))), (a 50, .inr (1, [.int (nI nw), .int (nI m1), .ref us, .ref ut, .ref uh, .ref ua, .ref ul])), (us, .inl (g 0, 10, .inl (fun i => nI (Sn i)))), (ut, .inl (g 0, 10, .inl (fun i => nI (Tg i)))), (uh, .inl (g 0, 10, .inl Hd)), (ua, .inl (g 0, 10, .inl Av)), (ul, .inl (g 0, 6, .inl (fun i => nI (Ld i))))])) A) (cc := cX7_of) (maxL := 3) (ret := (some .int)) (own := RX7) (by decide) rfl rfl (Nat.le_of_ble_eq_true rfl) ?_
  intro pP eE sS mM args below meth cC aA ls qQ Z hR_ hlk hnm hK hT hA hQ G hl
  have hinX1 : ∀ w ∈ u_ws RX1 TX1 7, w ∈ wsX7_of := (fun _ h => List.mem_cons_of_mem _ (List.mem_append_left _ (List.mem_append_right _ h)))
  have hinX7 : ∀ w ∈ u_ws RX7 TX7 11, w ∈ wsX7_of := (fun _ h => List.mem_cons_of_mem _ (List.mem_append_left _ (List.mem_append_left _ (List.mem_append_right _ h))))
  have hn := hW.1
  refine lv_iload_n Z.1 Z.2.1 dX7_of_0 rfl (lv_at hl 2 rfl) ?_
  refine lv_bipush (v := nI 20) Z.1 Z.2.1 dX7_of_1 (by decide +kernel) ?_
  refine lv_icmp_lt (tgt := 20) Z.1 Z.2.1 dX7_of_3 (by decide) (fun c3 => ?_) (fun c3 => ?_)
  · have c3 : what < 20 := c3
    have c3n : ¬ 20 ≤ what := fun q => (Int32.not_lt.mpr q) c3
    refine lv_iload_n Z.1 Z.2.1 dX7_of_20 rfl (lv_at hl 2 rfl) ?_
    refine lv_bipush (v := nI 10) Z.1 Z.2.1 dX7_of_21 (by decide +kernel) ?_
    refine lv_icmp_lt (tgt := 58) Z.1 Z.2.1 dX7_of_23 (by decide) (fun c23 => ?_) (fun c23 => ?_)
    · have c23 : what < 10 := c23
      have c23n : ¬ 10 ≤ what := fun q => (Int32.not_lt.mpr q) c23
      refine lv_aload_n Z.1 Z.2.1 dX7_of_58 rfl (lv_at hl 0 rfl) ?_
      refine lv_iload_n Z.1 Z.2.1 dX7_of_59 rfl (lv_at hl 1 rfl) ?_
      refine zk_ci (WF := fun (_ : Unit) => [(a 0, .inr (7, [.ref (a 1), .ref (a 2), .ref (a 3), .ref (a 4), .ref (a 50), .ref (a 60), .ref (a 7), .ref (a 8), .int (zk_b pic), .int (nI storm), .int chance])), (a 2, .inr (5, [.ref (a 20), .ref (a 21), .ref (a 22), .int (nI n), .int (nI hide), .ref (a 1), .ref (a 23), .ref (a 24), .int (nI ver), .int ew, .int (zk_b ek)])), (a 20, .inl (g 0, 7, .inl (fun i => nI (P i)))), (a 21, .inl (g 0, 7, .inl (fun i => nI (S i)))), (a 22, .inl (g 0, 7, .inl (fun i => nI (Q i)))), (a 50, .inr (1, [.int (nI nw), .int (nI m1), .ref us, .ref ut, .ref uh, .ref ua, .ref ul])), (us, .inl (g 0, 10, .inl (fun i => nI (Sn i)))), (ut, .inl (g 0, 10, .inl (fun i => nI (Tg i)))), (uh, .inl (g 0, 10, .inl Hd)), (ua, .inl (g 0, 10, .inl Av)), (ul, .inl (g 0, 6, .inl (fun i => nI (Ld i))))]) (wr := [(a 20, .inl (g 0, 7, .inl (fun i => nI (P i)))), (a 21, .inl (g 0, 7, .inl (fun i => nI (S i)))), (a 22, .inl (g 0, 7, .inl (fun i => nI (Q i)))), (a 50, .inr (1, [.int (nI nw), .int (nI m1), .ref us, .ref ut, .ref uh, .ref ua, .ref ul])), (us, .inl (g 0, 10, .inl (fun i => nI (Sn i)))), (ut, .inl (g 0, 10, .inl (fun i => nI (Tg i)))), (uh, .inl (g 0, 10, .inl Hd)), (ua, .inl (g 0, 10, .inl Av)), (ul, .inl (g 0, 6, .inl (fun i => nI (Ld i))))]) ⟨rfl, rfl⟩ (zk_rv (As := [.int number]) (rest := []) (q0 := 0) (ci := 7) Z ((ct_X7_isWorldNumber l D g τ a pic storm chance n hide ver ew ek number (by omega)) sS.heap.size) hK hT hA G [0, 1] rfl (by decide) rfl rfl gX7_of_X7_isWorldNumber rfl dvX7_isWorldNumber ⟨by decide, by decide⟩ rfl hl.1 rfl (Nat.le_of_ble_eq_true rfl) dX7_of_60 ⟨Nat.zero_le _, Nat.zero_le _⟩) hA G [0, 1] [2, 3, 4, 5, 6, 7, 8, 9, 10] [9, 10, 0, 1, 2, 3, 4, 5, 6, 7, 8] rfl rfl (by decide) (by decide) (by decide) (fun _ => rfl) (fun r_60 _ H locs w_60 G => ?_)
      obtain rfl : r_60 = zk_b (zb_w n number) := w_60
      refine lv_if_eq (tgt := 75) Z.1 Z.2.1 dX7_of_63 (by decide) (fun c63 => ?_) (fun c63 => ?_)
      · have c63 : zb_w n number = false := zk_b0.mp c63
        refine lv_iconst (v := (-1)) Z.1 Z.2.1 dX7_of_75 (by decide +kernel) ?_
        exact zk_reti Z hR_ hlk hK hQ G () (by unfold zu_of; rw [if_neg c3n, if_neg c23n, c63]; rfl) rfl dX7_of_76
      have c63 : zb_w n number = true := zk_b1.mp c63
      have c63_0 := c63
      obtain ⟨i, hi, rfl, hi2⟩ := zb_w_ex c63
      refine lv_aload_n Z.1 Z.2.1 dX7_of_66 rfl (lv_at hl 0 rfl) ?_
      refine lv_iload_n Z.1 Z.2.1 dX7_of_67 rfl (lv_at hl 1 rfl) ?_
      refine lv_iload_n Z.1 Z.2.1 dX7_of_68 rfl (lv_at hl 2 rfl) ?_
      refine zk_ci (WF := fun (_ : Unit) => [(a 0, .inr (7, [.ref (a 1), .ref (a 2), .ref (a 3), .ref (a 4), .ref (a 50), .ref (a 60), .ref (a 7), .ref (a 8), .int (zk_b pic), .int (nI storm), .int chance])), (a 2, .inr (5, [.ref (a 20), .ref (a 21), .ref (a 22), .int (nI n), .int (nI hide), .ref (a 1), .ref (a 23), .ref (a 24), .int (nI ver), .int ew, .int (zk_b ek)])), (a 20, .inl (g 0, 7, .inl (fun i => nI (P i)))), (a 21, .inl (g 0, 7, .inl (fun i => nI (S i)))), (a 22, .inl (g 0, 7, .inl (fun i => nI (Q i)))), (a 50, .inr (1, [.int (nI nw), .int (nI m1), .ref us, .ref ut, .ref uh, .ref ua, .ref ul])), (us, .inl (g 0, 10, .inl (fun i => nI (Sn i)))), (ut, .inl (g 0, 10, .inl (fun i => nI (Tg i)))), (uh, .inl (g 0, 10, .inl Hd)), (ua, .inl (g 0, 10, .inl Av)), (ul, .inl (g 0, 6, .inl (fun i => nI (Ld i))))]) (wr := [(us, .inl (g 0, 10, .inl (fun i => nI (Sn i)))), (ut, .inl (g 0, 10, .inl (fun i => nI (Tg i)))), (uh, .inl (g 0, 10, .inl Hd)), (ua, .inl (g 0, 10, .inl Av))]) ⟨rfl, rfl⟩ (zk_rv (As := [.int (nI i), .int what]) (rest := []) (q0 := 0) (ci := 7) Z ((ct_X7_ofWorld l D g τ a pic storm chance n hide ver ew ek P S Q us ut uh ua ul nw m1 Ld i what (by exact hi2) (by omega) (by exact hW) (by omega)) H.size) hK hT hA G [0, 1, 2, 3, 4, 5, 10] rfl (by decide) rfl rfl gX7_of_X7_ofWorld rfl dvX7_ofWorld ⟨by decide, by decide⟩ rfl hl.1 rfl (Nat.le_of_ble_eq_true rfl) dX7_of_69 ⟨Nat.zero_le _, Nat.zero_le _⟩) hA G [0, 1, 2, 3, 4, 5, 10] [6, 7, 8, 9] [4, 5, 6, 7, 8, 9, 0, 1, 2, 3, 10] rfl rfl (by decide) (by decide) (by decide) (fun _ => rfl) (fun r_69 _ H locs w_69 G => ?_)
      obtain rfl : r_69 = zu_ofWd P S Q hide storm nw Ld i what := w_69
      refine lv_goto (tgt := 76) Z.1 Z.2.1 dX7_of_72 (by decide) ?_
      exact zk_reti Z hR_ hlk hK hQ G () (by unfold zu_of; rw [if_neg c3n, if_neg c23n, if_pos c63_0, zb_nat hi]) rfl dX7_of_76
    have c23 : ¬ what < 10 := c23
    have c23n := Int32.not_lt.mp c23
    refine lv_iload_n Z.1 Z.2.1 dX7_of_26 rfl (lv_at hl 1 rfl) ?_
    refine lv_if_lt (tgt := 56) Z.1 Z.2.1 dX7_of_27 (by decide) (fun c27 => ?_) (fun c27 => ?_)
    · have c27 : number < 0 := c27
      refine lv_iconst (v := (-1)) Z.1 Z.2.1 dX7_of_56 (by decide +kernel) ?_
      exact zk_reti Z hR_ hlk hK hQ G () (by unfold zu_of; rw [if_neg c3n, if_pos c23n, zb_w_neg c27]; rfl) rfl dX7_of_57
    have c27 : ¬ number < 0 := c27
    obtain ⟨j, hj, rfl⟩ := nI_of c27
    refine lv_iload_n Z.1 Z.2.1 dX7_of_30 rfl (lv_at hl 1 rfl) ?_
    refine lv_aload_n Z.1 Z.2.1 dX7_of_31 rfl (lv_at hl 0 rfl) ?_
    refine zk_get (C := RX7) (T := TX7) (N := 11) (ci := 7) Z hK G hinX7 0 rfl rfl 4 (by decide) (List.mem_of_getElem? (i := 1) rfl) rfl (v := .ref (a 50)) rfl dX7_of_32 ?_
    refine zk_get (C := RX1) (T := TX1) (N := 7) (ci := 1) Z hK G hinX1 5 rfl rfl 1 (by decide) (List.mem_of_getElem? (i := 2) rfl) rfl (v := .int (nI m1)) rfl dX7_of_35 ?_
    refine lv_icmp_ge (tgt := 56) Z.1 Z.2.1 dX7_of_38 (by decide) (fun c38 => ?_) (fun c38 => ?_)
    · have c38 : m1 ≤ j := zk_le (by omega) (by omega) c38
      refine lv_iconst (v := (-1)) Z.1 Z.2.1 dX7_of_56 (by decide +kernel) ?_
      exact zk_reti Z hR_ hlk hK hQ G () (by unfold zu_of; rw [if_neg c3n, if_pos c23n, zb_w_n hj, decide_eq_false (Nat.not_lt.mpr c38)]; rfl) rfl dX7_of_57
    have c38 : j < m1 := zk_nle (by omega) (by omega) c38
    refine lv_aload_n Z.1 Z.2.1 dX7_of_41 rfl (lv_at hl 0 rfl) ?_
    refine zk_get (C := RX7) (T := TX7) (N := 11) (ci := 7) Z hK G hinX7 0 rfl rfl 4 (by decide) (List.mem_of_getElem? (i := 1) rfl) rfl (v := .ref (a 50)) rfl dX7_of_42 ?_
    refine lv_iload_n Z.1 Z.2.1 dX7_of_45 rfl (lv_at hl 1 rfl) ?_
    refine lv_iload_n Z.1 Z.2.1 dX7_of_46 rfl (lv_at hl 2 rfl) ?_
    refine lv_bipush (v := nI 10) Z.1 Z.2.1 dX7_of_47 (by decide +kernel) ?_
    refine zk_isub Z dX7_of_49 (z := what - nI 10) rfl ?_
    refine zk_ci (WF := fun (_ : Unit) => [(a 0, .inr (7, [.ref (a 1), .ref (a 2), .ref (a 3), .ref (a 4), .ref (a 50), .ref (a 60), .ref (a 7), .ref (a 8), .int (zk_b pic), .int (nI storm), .int chance])), (a 2, .inr (5, [.ref (a 20), .ref (a 21), .ref (a 22), .int (nI n), .int (nI hide), .ref (a 1), .ref (a 23), .ref (a 24), .int (nI ver), .int ew, .int (zk_b ek)])), (a 20, .inl (g 0, 7, .inl (fun i => nI (P i)))), (a 21, .inl (g 0, 7, .inl (fun i => nI (S i)))), (a 22, .inl (g 0, 7, .inl (fun i => nI (Q i)))), (a 50, .inr (1, [.int (nI nw), .int (nI m1), .ref us, .ref ut, .ref uh, .ref ua, .ref ul])), (us, .inl (g 0, 10, .inl (fun i => nI (Sn i)))), (ut, .inl (g 0, 10, .inl (fun i => nI (Tg i)))), (uh, .inl (g 0, 10, .inl Hd)), (ua, .inl (g 0, 10, .inl Av)), (ul, .inl (g 0, 6, .inl (fun i => nI (Ld i))))]) (wr := [(a 0, .inr (7, [.ref (a 1), .ref (a 2), .ref (a 3), .ref (a 4), .ref (a 50), .ref (a 60), .ref (a 7), .ref (a 8), .int (zk_b pic), .int (nI storm), .int chance])), (a 2, .inr (5, [.ref (a 20), .ref (a 21), .ref (a 22), .int (nI n), .int (nI hide), .ref (a 1), .ref (a 23), .ref (a 24), .int (nI ver), .int ew, .int (zk_b ek)])), (a 20, .inl (g 0, 7, .inl (fun i => nI (P i)))), (a 21, .inl (g 0, 7, .inl (fun i => nI (S i)))), (a 22, .inl (g 0, 7, .inl (fun i => nI (Q i)))), (ul, .inl (g 0, 6, .inl (fun i => nI (Ld i))))]) ⟨rfl, rfl⟩ (zk_rv (As := [.int (nI j), .int (what - nI 10)]) (rest := []) (q0 := 5) (ci := 1) Z ((ct_X1_ofMessage l D g τ (a 50) us ut uh ua ul nw m1 Sn Tg Hd Av j (what - nI 10) (by omega)) sS.heap.size) hK hT hA G [5, 6, 7, 8, 9] rfl (by decide) rfl rfl gX7_of_X1_ofMessage rfl dvX1_ofMessage ⟨by decide, by decide⟩ rfl hl.1 rfl (Nat.le_of_ble_eq_true rfl) dX7_of_50 ⟨Nat.zero_le _, Nat.zero_le _⟩) hA G [5, 6, 7, 8, 9] [0, 1, 2, 3, 4, 10] [0, 1, 2, 3, 4, 6, 7, 8, 9, 10, 5] rfl rfl (by decide) (by decide) (by decide) (fun _ => rfl) (fun r_50 _ H locs w_50 G => ?_)
    obtain rfl : r_50 = zd_of Sn Tg Hd Av j (what - nI 10) := w_50
    refine lv_goto (tgt := 57) Z.1 Z.2.1 dX7_of_53 (by decide) ?_
    exact zk_reti Z hR_ hlk hK hQ G () (by unfold zu_of; rw [if_neg c3n, if_pos c23n, zb_w_n hj, decide_eq_true c38, if_pos rfl, zb_nat hj]) rfl dX7_of_57
  have c3 : ¬ what < 20 := c3
  have c3n := Int32.not_lt.mp c3
  refine lv_iload_n Z.1 Z.2.1 dX7_of_6 rfl (lv_at hl 1 rfl) ?_
  refine lv_if_ne (tgt := 18) Z.1 Z.2.1 dX7_of_7 (by decide) (fun c7 => ?_) (fun c7 => ?_)
  · have c7 : ¬ number = 0 := c7
    refine lv_iconst (v := (-1)) Z.1 Z.2.1 dX7_of_18 (by decide +kernel) ?_
    exact zk_reti Z hR_ hlk hK hQ G () (by unfold zu_of; rw [if_pos c3n, if_neg c7]) rfl dX7_of_19
  have c7 : number = 0 := c7
  refine lv_aload_n Z.1 Z.2.1 dX7_of_10 rfl (lv_at hl 0 rfl) ?_
  refine lv_iload_n Z.1 Z.2.1 dX7_of_11 rfl (lv_at hl 2 rfl) ?_
  refine zk_ci (WF := fun (_ : Unit) => [(a 0, .inr (7, [.ref (a 1), .ref (a 2), .ref (a 3), .ref (a 4), .ref (a 50), .ref (a 60), .ref (a 7), .ref (a 8), .int (zk_b pic), .int (nI storm), .int chance])), (a 2, .inr (5, [.ref (a 20), .ref (a 21), .ref (a 22), .int (nI n), .int (nI hide), .ref (a 1), .ref (a 23), .ref (a 24), .int (nI ver), .int ew, .int (zk_b ek)])), (a 20, .inl (g 0, 7, .inl (fun i => nI (P i)))), (a 21, .inl (g 0, 7, .inl (fun i => nI (S i)))), (a 22, .inl (g 0, 7, .inl (fun i => nI (Q i)))), (a 50, .inr (1, [.int (nI nw), .int (nI m1), .ref us, .ref ut, .ref uh, .ref ua, .ref ul])), (us, .inl (g 0, 10, .inl (fun i => nI (Sn i)))), (ut, .inl (g 0, 10, .inl (fun i => nI (Tg i)))), (uh, .inl (g 0, 10, .inl Hd)), (ua, .inl (g 0, 10, .inl Av)), (ul, .inl (g 0, 6, .inl (fun i => nI (Ld i))))]) (wr := [(a 21, .inl (g 0, 7, .inl (fun i => nI (S i)))), (a 22, .inl (g 0, 7, .inl (fun i => nI (Q i)))), (us, .inl (g 0, 10, .inl (fun i => nI (Sn i)))), (ut, .inl (g 0, 10, .inl (fun i => nI (Tg i)))), (uh, .inl (g 0, 10, .inl Hd)), (ua, .inl (g 0, 10, .inl Av)), (ul, .inl (g 0, 6, .inl (fun i => nI (Ld i))))]) ⟨rfl, rfl⟩ (zk_rv (As := [.int what]) (rest := []) (q0 := 0) (ci := 7) Z ((ct_X7_ofTheWhole l D g τ a pic storm chance n hide ver ew ek P S us ut uh ua ul nw m1 what (by exact hW)) sS.heap.size) hK hT hA G [0, 1, 2, 5] rfl (by decide) rfl rfl gX7_of_X7_ofTheWhole rfl dvX7_ofTheWhole ⟨by decide, by decide⟩ rfl hl.1 rfl (Nat.le_of_ble_eq_true rfl) dX7_of_12 ⟨Nat.zero_le _, Nat.zero_le _⟩) hA G [0, 1, 2, 5] [3, 4, 6, 7, 8, 9, 10] [7, 8, 9, 0, 1, 10, 2, 3, 4, 5, 6] rfl rfl (by decide) (by decide) (by decide) (fun _ => rfl) (fun r_12 _ H locs w_12 G => ?_)
  obtain rfl : r_12 = zu_ofW n P hide storm nw what := w_12
  refine lv_goto (tgt := 19) Z.1 Z.2.1 dX7_of_15 (by decide) ?_
  exact zk_reti Z hR_ hlk hK hQ G () (by unfold zu_of; rw [if_pos c3n, if_pos c7]) rfl dX7_of_19
