/-! Bodies, images. -/
def zr_body (zr : Nat) (x : Int32) : Int32 := if zr_kind x = true then (if zr < 50 then nI zr else (-3)) else (-1)

abbrev rm_X7_body : Room := { frames := 1, cells := 0, slots := 0, locals := 21 }
theorem dvX7_body : zk_dv yX7_body RX7 1 := by decide +kernel
set_option maxRecDepth 100000 in
set_option maxHeartbeats 4000000 in
theorem ct_X7_body (l : Launch) (D : va_G) (g : Nat → ClassId) (τ : Nat → Nat) (a : Nat → Nat) (pic : Bool) (storm : Nat) (chance : Int32) (zr : Nat) (rn : Nat) (nb : Int32) (TR : Nat → Nat) (KD : Nat → Nat) (x : Int32) (hz : zr ≤ 50) : zk_MI l D g τ yX7_body wsX7_body rm_X7_body [.ref (a 0), .int x] [(a 0, .inr (7, [.ref (a 1), .ref (a 2), .ref (a 3), .ref (a 4), .ref (a 50), .ref (a 60), .ref (a 7), .ref (a 8), .int (zk_b pic), .int (nI storm), .int chance])), (a 7, .inr (3, [.int (nI zr), .int (nI rn), .ref (a 70), .ref (a 71), .int nb])), (a 71, .inl (g 0, 50, .inl (fun i => nI (KD i))))] (fun (r : Int32) (_ : Unit) => r = zr_body zr x) (fun (_ : Unit) => [(a 0, .inr (7, [.ref (a 1), .ref (a 2), .ref (a 3), .ref (a 4), .ref (a 50), .ref (a 60), .ref (a 7), .ref (a 8), .int (zk_b pic), .int (nI storm), .int chance])), (a 7, .inr (3, [.int (nI (if (zr_kind x && decide (zr < 50)) = true then zr + 1 else zr)), .int (nI rn), .ref (a 70), .ref (a 71), .int nb])), (a 71, .inl (g 0, 50, .inl (fun i => nI ((if (zr_kind x && decide (zr < 50)) = true then zs_up KD zr x.toInt.toNat else KD) i))))]) := by
  refine zk_of (Qc := fun A => va_Qi (fun (r : Int32) (_ : Unit) => r = zr_body zr x) (zk_B D g A (fun (_ : Unit) => [(a 0, .inr (7, [.ref (a 1), .ref (a 2), .ref (a 3), .ref (a 4), .ref (a 50), .ref (a 60), .ref (a 7), .ref (a 8), .int (zk_b pic), .int (nI storm), .int chance])), (a 7, .inr (3, [.int (nI (if (zr_kind x && decide (zr < 50)) = true then zr + 1 else zr)), .int (nI rn), .ref (a 70), .ref (a 71), .int nb])), (a 71, .inl (g 0, 50, .inl (fun i => nI ((if (zr_kind x && decide (zr < 50)) = true then zs_up KD zr x.toInt.toNat else KD) i))))])) A) (cc := cX7_body) (maxL := 2) (ret := (some .int)) (own := RX7) (by decide) rfl rfl (Nat.le_of_ble_eq_true rfl) ?_
  intro pP eE sS mM args below meth cC aA ls qQ Z hR_ hlk hnm hK hT hA hQ G hl
  have hinX3 : ∀ w ∈ u_ws RX3 TX3 5, w ∈ wsX7_body := (fun _ h => List.mem_cons_of_mem _ (List.mem_append_right _ h))
  have hinX7 : ∀ w ∈ u_ws RX7 TX7 11, w ∈ wsX7_body := (fun _ h => List.mem_cons_of_mem _ (List.mem_append_left _ (List.mem_append_right _ h)))
  refine lv_iload_n Z.1 Z.2.1 dX7_body_0 rfl (lv_at hl 1 rfl) ?_
  refine zk_ci (WF := fun (_ : Unit) => [(a 0, .inr (7, [.ref (a 1), .ref (a 2), .ref (a 3), .ref (a 4), .ref (a 50), .ref (a 60), .ref (a 7), .ref (a 8), .int (zk_b pic), .int (nI storm), .int chance])), (a 7, .inr (3, [.int (nI zr), .int (nI rn), .ref (a 70), .ref (a 71), .int nb])), (a 71, .inl (g 0, 50, .inl (fun i => nI (KD i))))]) (wr := [(a 0, .inr (7, [.ref (a 1), .ref (a 2), .ref (a 3), .ref (a 4), .ref (a 50), .ref (a 60), .ref (a 7), .ref (a 8), .int (zk_b pic), .int (nI storm), .int chance])), (a 7, .inr (3, [.int (nI zr), .int (nI rn), .ref (a 70), .ref (a 71), .int nb])), (a 71, .inl (g 0, 50, .inl (fun i => nI (KD i))))]) ⟨rfl, rfl⟩ (zk_rs (As := [.int x]) (rest := []) Z ((ct_X3_isKind l D g τ x ) sS.heap.size) hK hT hA G [] rfl (by decide) gX7_body_X3_isKind rfl dvX3_isKind ⟨by decide, by decide⟩ rfl hl.1 rfl (Nat.le_of_ble_eq_true rfl) dX7_body_1 ⟨Nat.zero_le _, Nat.zero_le _⟩) hA G [] [0, 1, 2] [0, 1, 2] rfl rfl (by decide) (by decide) (by decide) (fun _ => rfl) (fun r_1 _ H locs w_1 G => ?_)
  obtain rfl : r_1 = zk_b (zr_kind x) := w_1
  refine lv_if_ne (tgt := 9) Z.1 Z.2.1 dX7_body_4 (by decide) (fun c4 => ?_) (fun c4 => ?_)
  · have c4 : zr_kind x = true := zk_b1.mp c4
    have c4_0 := c4
    obtain ⟨j, hj, rfl⟩ := zr_kind_ex c4
    refine lv_aload_n Z.1 Z.2.1 dX7_body_9 rfl (lv_at hl 0 rfl) ?_
    refine zk_get (C := RX7) (T := TX7) (N := 11) (ci := 7) Z hK G hinX7 0 rfl rfl 6 (by decide) (List.mem_of_getElem? (i := 1) rfl) rfl (v := .ref (a 7)) rfl dX7_body_10 ?_
    refine zk_get (C := RX3) (T := TX3) (N := 5) (ci := 3) Z hK G hinX3 1 rfl rfl 0 (by decide) (List.mem_of_getElem? (i := 2) rfl) rfl (v := .int (nI zr)) rfl dX7_body_13 ?_
    refine lv_bipush (v := nI 50) Z.1 Z.2.1 dX7_body_16 (by decide +kernel) ?_
    refine lv_icmp_ge (tgt := 32) Z.1 Z.2.1 dX7_body_18 (by decide) (fun c18 => ?_) (fun c18 => ?_)
    · have c18 : 50 ≤ zr := zk_le (by omega) (by omega) c18
      refine lv_bipush (v := (-3)) Z.1 Z.2.1 dX7_body_32 (by decide +kernel) ?_
      exact zk_reti Z hR_ hlk hK hQ G () (by unfold zr_body; rw [if_pos c4_0, if_neg (Nat.not_lt.mpr c18)]) (by rw [c4_0, decide_eq_false (Nat.not_lt.mpr c18)]; rfl) dX7_body_34
    have c18 : zr < 50 := zk_nle (by omega) (by omega) c18
    refine lv_aload_n Z.1 Z.2.1 dX7_body_21 rfl (lv_at hl 0 rfl) ?_
    refine zk_get (C := RX7) (T := TX7) (N := 11) (ci := 7) Z hK G hinX7 0 rfl rfl 6 (by decide) (List.mem_of_getElem? (i := 1) rfl) rfl (v := .ref (a 7)) rfl dX7_body_22 ?_
    refine lv_iload_n Z.1 Z.2.1 dX7_body_25 rfl (lv_at hl 1 rfl) ?_
    refine zk_ci (WF := fun (_ : Unit) => [(a 0, .inr (7, [.ref (a 1), .ref (a 2), .ref (a 3), .ref (a 4), .ref (a 50), .ref (a 60), .ref (a 7), .ref (a 8), .int (zk_b pic), .int (nI storm), .int chance])), (a 7, .inr (3, [.int (nI (zr + 1)), .int (nI rn), .ref (a 70), .ref (a 71), .int nb])), (a 71, .inl (g 0, 50, .inl (fun i => nI (zs_up KD zr j i))))]) (wr := [(a 0, .inr (7, [.ref (a 1), .ref (a 2), .ref (a 3), .ref (a 4), .ref (a 50), .ref (a 60), .ref (a 7), .ref (a 8), .int (zk_b pic), .int (nI storm), .int chance]))]) ⟨rfl, rfl⟩ (zk_rv (As := [.int (nI j)]) (rest := []) (q0 := 1) (ci := 3) Z ((ct_X3_add l D g τ a zr rn nb TR KD j (by omega)) H.size) hK hT hA G [1, 2] rfl (by decide) rfl rfl gX7_body_X3_add rfl dvX3_add ⟨by decide, by decide⟩ rfl hl.1 rfl (Nat.le_of_ble_eq_true rfl) dX7_body_26 ⟨Nat.zero_le _, Nat.zero_le _⟩) hA G [1, 2] [0] [0, 1, 2] rfl rfl (by decide) (by decide) (by decide) (fun _ => rfl) (fun r_26 _ H locs w_26 G => ?_)
    obtain rfl : r_26 = nI zr := w_26
    refine lv_goto (tgt := 34) Z.1 Z.2.1 dX7_body_29 (by decide) ?_
    exact zk_reti Z hR_ hlk hK hQ G () (by unfold zr_body; rw [if_pos c4_0, if_pos c18]) (by rw [c4_0, decide_eq_true c18, zb_nat (by omega)]; rfl) dX7_body_34
  have c4 : zr_kind x = false := zk_b0.mp c4
  refine lv_iconst (v := (-1)) Z.1 Z.2.1 dX7_body_7 (by decide +kernel) ?_
  exact zk_reti Z hR_ hlk hK hQ G () (by unfold zr_body; rw [c4]; rfl) (by rw [c4]; rfl) dX7_body_8
