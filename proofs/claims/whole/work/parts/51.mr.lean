/-! The reference: powers. -/
def zm_pow (v : Int64) : Nat → Int64 | 0 => lN 1 | k + 1 => zm_pow v k * v

abbrev rm_X8_power : Room := { frames := 0, cells := 0, slots := 0, locals := 0 }
theorem dvX8_power : zk_dv yX8_power RX8 2 := by decide +kernel
set_option maxRecDepth 100000 in
set_option maxHeartbeats 400000 in
theorem ct_X8_power (l : Launch) (D : va_G) (g : Nat → ClassId) (τ : Nat → Nat) (v : Int64) (n : Nat) (hn : n ≤ 1000000) : zk_ML l D g τ yX8_power wmX8_power rm_X8_power [.long v, .int (nI n)] [] (fun (r : Int64) (_ : Unit) => r = zm_pow v n) (fun (_ : Unit) => []) := by
  refine zk_of (av := [.long v, .int (nI n)]) (W0 := []) (y := yX8_power) (wd := wmX8_power) (Qc := fun A => va_Ql (fun (r : Int64) (_ : Unit) => r = zm_pow v n) (zk_B D g A (fun (_ : Unit) => [])) A) (cc := cX8_power) (maxL := 6) (ret := (some .long)) (own := RX8) (by decide) rfl rfl (Nat.le_of_ble_eq_true rfl) ?_
  intro pP eE sS mM args below meth cC aA ls qQ Z hR_ hlk hnm hK hT hA hQ G hl
  refine lv_lconst (v := lN 1) Z.1 Z.2.1 dX8_power_0 (by decide +kernel) ?_
  refine lv_lstore_n (lv' := [(3, .long (lN 1)), (0, .long v), (2, .int (nI n))]) Z.1 Z.2.1 dX8_power_1 rfl hl (by decide) rfl (fun ls hl => ?_)
  refine lv_iconst (v := nI 0) Z.1 Z.2.1 dX8_power_2 (by decide +kernel) ?_
  refine lv_istore (lv' := [(5, .int (nI 0)), (3, .long (lN 1)), (0, .long v), (2, .int (nI n))]) Z.1 Z.2.1 dX8_power_3 hl (by decide) rfl (fun ls hl => ?_)
  have L5 : ∀ (nN : Nat) (k : Nat), n - k < nN → (k ≤ n) → ∀ (H : Heap) (locs : List Loc) (ls : Array Slot), zk_G D aA [] sS H locs → lv_has ls 6 [(0, .long v), (2, .int (nI n)), (3, .long (zm_pow v k)), (5, .int (nI k))] → W pP l eE rm_X8_power sS mM args below meth cC H locs 0 0 qQ (F0 mM 5 ls []) := by
    intro nN
    induction nN with
    | zero => intros; omega
    | succ nN ih5 =>
      intro k hμ h1 H locs ls G hl
      refine lv_iload Z.1 Z.2.1 dX8_power_5 (lv_at hl 3 rfl) ?_
      refine lv_iload_n Z.1 Z.2.1 dX8_power_7 rfl (lv_at hl 1 rfl) ?_
      refine lv_icmp_ge (tgt := 21) Z.1 Z.2.1 dX8_power_8 (by decide) (fun c8 => ?_) (fun c8 => ?_)
      · have c8 : n ≤ k := zk_le (by omega) (by omega) c8
        refine lv_lload_n Z.1 Z.2.1 dX8_power_21 rfl (lv_at hl 2 rfl) ?_
        exact zk_retl Z hR_ hlk hK hQ G () (by rw [show k = n by omega]) rfl dX8_power_22
      have c8 : k < n := zk_nle (by omega) (by omega) c8
      refine lv_lload_n Z.1 Z.2.1 dX8_power_11 rfl (lv_at hl 2 rfl) ?_
      refine lv_lload_n Z.1 Z.2.1 dX8_power_12 rfl (lv_at hl 0 rfl) ?_
      refine zk_lmul Z dX8_power_13 (z := zm_pow v (k + 1)) rfl ?_
      refine lv_lstore_n (lv' := [(3, .long (zm_pow v (k + 1))), (0, .long v), (2, .int (nI n)), (5, .int (nI k))]) Z.1 Z.2.1 dX8_power_14 rfl hl (by decide) rfl (fun ls hl => ?_)
      refine lv_iinc (v := nI (k + 1)) (lv' := [(5, .int (nI (k + 1))), (3, .long (zm_pow v (k + 1))), (0, .long v), (2, .int (nI n))]) Z.1 Z.2.1 dX8_power_15 hl (k := 3) rfl (zk_inc k 1) (by decide) rfl (fun ls hl => ?_)
      refine lv_goto (tgt := 5) Z.1 Z.2.1 dX8_power_18 (by decide) ?_
      exact ih5 (k + 1) (by omega) (by omega) _ _ _ G (lv_sub hl [2, 3, 1, 0] rfl)
  exact L5 _ 0 (Nat.lt_succ_self _) (by omega) _ _ _ G (lv_sub hl [2, 3, 1, 0] rfl)

def zm_book (SH : Nat → Int32) (x : Int32) : Int32 := if zb_w 6 x = true then (if SH x.toInt.toNat < 0 then (-11) else if SH x.toInt.toNat = 51 then 1 else (-12)) else (-1)
abbrev rm_X8_bookIs : Room := { frames := 2, cells := 0, slots := 0, locals := 45 }
theorem dvX8_bookIs : zk_dv yX8_bookIs RX8 1 := by decide +kernel
theorem gmX8_bookIs_X8_isShelf : GoodIn wmX8_bookIs (va_wsS RX8 118 yX8_isShelf wmX8_isShelf) := goodIn_app (wa8_w (List.forall_mem_cons.mpr ⟨wa8_62, List.forall_mem_cons.mpr ⟨wa8_63, List.forall_mem_cons.mpr ⟨wa8_43, fun _ h => absurd h List.not_mem_nil⟩⟩⟩)) (wa8_sub wa8_64)
set_option maxRecDepth 100000 in
set_option maxHeartbeats 400000 in
theorem ct_X8_bookIs (l : Launch) (D : va_G) (g : Nat → ClassId) (τ : Nat → Nat) (b : Nat → Nat) (m : Nat → Int32) (SH : Nat → Int32) (x : Int32)  : zk_MI l D g τ yX8_bookIs wmX8_bookIs rm_X8_bookIs [.ref (b 100), .int x] [(b 100, .inr (8, [.ref (b 0), .ref (b 1), .ref (b 2), .ref (b 3), .int (m 4), .int (m 5), .int (m 6), .int (m 7), .ref (b 8), .int (m 9), .ref (b 10), .int (m 11), .int (m 12), .int (m 13), .int (m 14), .int (m 15), .int (m 16), .ref (b 17), .ref (b 18), .ref (b 19), .ref (b 20), .ref (b 21), .ref (b 22), .ref (b 23), .ref (b 24), .int (m 25), .int (m 26), .int (m 27), .int (m 28), .ref (b 29), .ref (b 30), .int (m 31), .int (m 32), .int (m 33), .int (m 34), .int (m 35), .ref (b 36), .ref (b 37), .int (m 38), .ref (b 39), .ref (b 40), .int (m 41), .int (m 42), .int (m 43), .ref (b 44), .ref (b 45), .ref (b 46), .ref (b 47)])), (b 44, .inl (g 0, 6, .inl SH))] (fun (r : Int32) (_ : Unit) => r = zm_book SH x) (fun (_ : Unit) => [(b 100, .inr (8, [.ref (b 0), .ref (b 1), .ref (b 2), .ref (b 3), .int (m 4), .int (m 5), .int (m 6), .int (m 7), .ref (b 8), .int (m 9), .ref (b 10), .int (m 11), .int (m 12), .int (m 13), .int (m 14), .int (m 15), .int (m 16), .ref (b 17), .ref (b 18), .ref (b 19), .ref (b 20), .ref (b 21), .ref (b 22), .ref (b 23), .ref (b 24), .int (m 25), .int (m 26), .int (m 27), .int (m 28), .ref (b 29), .ref (b 30), .int (m 31), .int (m 32), .int (m 33), .int (m 34), .int (m 35), .ref (b 36), .ref (b 37), .int (m 38), .ref (b 39), .ref (b 40), .int (m 41), .int (m 42), .int (m 43), .ref (b 44), .ref (b 45), .ref (b 46), .ref (b 47)])), (b 44, .inl (g 0, 6, .inl SH))]) := by
  refine zk_of (av := [.ref (b 100), .int x]) (W0 := [(b 100, .inr (8, [.ref (b 0), .ref (b 1), .ref (b 2), .ref (b 3), .int (m 4), .int (m 5), .int (m 6), .int (m 7), .ref (b 8), .int (m 9), .ref (b 10), .int (m 11), .int (m 12), .int (m 13), .int (m 14), .int (m 15), .int (m 16), .ref (b 17), .ref (b 18), .ref (b 19), .ref (b 20), .ref (b 21), .ref (b 22), .ref (b 23), .ref (b 24), .int (m 25), .int (m 26), .int (m 27), .int (m 28), .ref (b 29), .ref (b 30), .int (m 31), .int (m 32), .int (m 33), .int (m 34), .int (m 35), .ref (b 36), .ref (b 37), .int (m 38), .ref (b 39), .ref (b 40), .int (m 41), .int (m 42), .int (m 43), .ref (b 44), .ref (b 45), .ref (b 46), .ref (b 47)])), (b 44, .inl (g 0, 6, .inl SH))]) (y := yX8_bookIs) (wd := wmX8_bookIs) (Qc := fun A => va_Qi (fun (r : Int32) (_ : Unit) => r = zm_book SH x) (zk_B D g A (fun (_ : Unit) => [(b 100, .inr (8, [.ref (b 0), .ref (b 1), .ref (b 2), .ref (b 3), .int (m 4), .int (m 5), .int (m 6), .int (m 7), .ref (b 8), .int (m 9), .ref (b 10), .int (m 11), .int (m 12), .int (m 13), .int (m 14), .int (m 15), .int (m 16), .ref (b 17), .ref (b 18), .ref (b 19), .ref (b 20), .ref (b 21), .ref (b 22), .ref (b 23), .ref (b 24), .int (m 25), .int (m 26), .int (m 27), .int (m 28), .ref (b 29), .ref (b 30), .int (m 31), .int (m 32), .int (m 33), .int (m 34), .int (m 35), .ref (b 36), .ref (b 37), .int (m 38), .ref (b 39), .ref (b 40), .int (m 41), .int (m 42), .int (m 43), .ref (b 44), .ref (b 45), .ref (b 46), .ref (b 47)])), (b 44, .inl (g 0, 6, .inl SH))])) A) (cc := cX8_bookIs) (maxL := 2) (ret := (some .int)) (own := RX8) (by decide) rfl rfl (Nat.le_of_ble_eq_true rfl) ?_
  intro pP eE sS mM args below meth cC aA ls qQ Z hR_ hlk hnm hK hT hA hQ G hl
  have hinX8 : ∀ w ∈ u_ws RX8 TX8 48, w ∈ wmX8_bookIs := wa8_in
  refine lv_iload_n Z.1 Z.2.1 dX8_bookIs_0 rfl (lv_at hl 1 rfl) ?_
  refine zk_ci (WF := fun (_ : Unit) => [(b 100, .inr (8, [.ref (b 0), .ref (b 1), .ref (b 2), .ref (b 3), .int (m 4), .int (m 5), .int (m 6), .int (m 7), .ref (b 8), .int (m 9), .ref (b 10), .int (m 11), .int (m 12), .int (m 13), .int (m 14), .int (m 15), .int (m 16), .ref (b 17), .ref (b 18), .ref (b 19), .ref (b 20), .ref (b 21), .ref (b 22), .ref (b 23), .ref (b 24), .int (m 25), .int (m 26), .int (m 27), .int (m 28), .ref (b 29), .ref (b 30), .int (m 31), .int (m 32), .int (m 33), .int (m 34), .int (m 35), .ref (b 36), .ref (b 37), .int (m 38), .ref (b 39), .ref (b 40), .int (m 41), .int (m 42), .int (m 43), .ref (b 44), .ref (b 45), .ref (b 46), .ref (b 47)])), (b 44, .inl (g 0, 6, .inl SH))]) (wr := [(b 100, .inr (8, [.ref (b 0), .ref (b 1), .ref (b 2), .ref (b 3), .int (m 4), .int (m 5), .int (m 6), .int (m 7), .ref (b 8), .int (m 9), .ref (b 10), .int (m 11), .int (m 12), .int (m 13), .int (m 14), .int (m 15), .int (m 16), .ref (b 17), .ref (b 18), .ref (b 19), .ref (b 20), .ref (b 21), .ref (b 22), .ref (b 23), .ref (b 24), .int (m 25), .int (m 26), .int (m 27), .int (m 28), .ref (b 29), .ref (b 30), .int (m 31), .int (m 32), .int (m 33), .int (m 34), .int (m 35), .ref (b 36), .ref (b 37), .int (m 38), .ref (b 39), .ref (b 40), .int (m 41), .int (m 42), .int (m 43), .ref (b 44), .ref (b 45), .ref (b 46), .ref (b 47)])), (b 44, .inl (g 0, 6, .inl SH))]) ⟨rfl, rfl⟩ (zk_rs (As := [.int x]) (rest := []) Z ((ct_X8_isShelf l D g τ x ) sS.heap.size) hK hT hA G [] rfl (by decide) gmX8_bookIs_X8_isShelf rfl dvX8_isShelf ⟨by decide, by decide⟩ rfl hl.1 rfl (Nat.le_of_ble_eq_true rfl) dX8_bookIs_1 ⟨Nat.zero_le _, Nat.zero_le _⟩) hA G [] [0, 1] [0, 1] rfl rfl (by decide) (by decide) (by decide) (fun _ => rfl) (fun r_1 _ H locs w_1 G => ?_)
  obtain rfl : r_1 = zk_b (zb_w 6 x) := w_1
  refine lv_if_ne (tgt := 11) Z.1 Z.2.1 dX8_bookIs_4 (by decide) (fun c4 => ?_) (fun c4 => ?_)
  · have c4 : (zb_w 6 x) = true := zk_b1.mp c4
    have c4_0 := c4
    obtain ⟨v, hv, rfl, hv2⟩ := zb_w_ex c4
    refine lv_aload_n Z.1 Z.2.1 dX8_bookIs_11 rfl (lv_at hl 0 rfl) ?_
    refine zk_get (C := RX8) (T := TX8) (N := 48) (ci := 8) Z hK G hinX8 0 rfl rfl 44 (by decide) (List.mem_cons_of_mem _ wa8_28) rfl (v := .ref (b 44)) rfl dX8_bookIs_12 ?_
    refine lv_iload_n Z.1 Z.2.1 dX8_bookIs_15 rfl (lv_at hl 1 rfl) ?_
    refine zk_iald Z hK G 1 rfl (k := v) (by omega) (by decide) (v := SH v) rfl dX8_bookIs_16 ?_
    refine lv_if_ge (tgt := 25) Z.1 Z.2.1 dX8_bookIs_17 (by decide) (fun c17 => ?_) (fun c17 => ?_)
    · have c17 : 0 ≤ SH v := c17
      refine lv_aload_n Z.1 Z.2.1 dX8_bookIs_25 rfl (lv_at hl 0 rfl) ?_
      refine zk_get (C := RX8) (T := TX8) (N := 48) (ci := 8) Z hK G hinX8 0 rfl rfl 44 (by decide) (List.mem_cons_of_mem _ wa8_28) rfl (v := .ref (b 44)) rfl dX8_bookIs_26 ?_
      refine lv_iload_n Z.1 Z.2.1 dX8_bookIs_29 rfl (lv_at hl 1 rfl) ?_
      refine zk_iald Z hK G 1 rfl (k := v) (by omega) (by decide) (v := SH v) rfl dX8_bookIs_30 ?_
      refine lv_bipush (v := nI 51) Z.1 Z.2.1 dX8_bookIs_31 (by decide +kernel) ?_
      refine lv_icmp_ne (tgt := 40) Z.1 Z.2.1 dX8_bookIs_33 (by decide) (fun c33 => ?_) (fun c33 => ?_)
      · have c33 : ¬ SH v = 51 := c33
        refine lv_bipush (v := (-12)) Z.1 Z.2.1 dX8_bookIs_40 (by decide +kernel) ?_
        exact zk_reti Z hR_ hlk hK hQ G () (by unfold zm_book; rw [if_pos c4_0, zb_nat hv, if_neg (by first | exact Int32.not_lt.mpr c17 | exact c17), if_neg c33]; try rfl) rfl dX8_bookIs_42
      have c33 : SH v = 51 := c33
      refine lv_iconst (v := nI 1) Z.1 Z.2.1 dX8_bookIs_36 (by decide +kernel) ?_
      refine lv_goto (tgt := 42) Z.1 Z.2.1 dX8_bookIs_37 (by decide) ?_
      exact zk_reti Z hR_ hlk hK hQ G () (by unfold zm_book; rw [if_pos c4_0, zb_nat hv, if_neg (by first | exact Int32.not_lt.mpr c17 | exact c17), if_pos c33]; try rfl) rfl dX8_bookIs_42
    have c17 : ¬ 0 ≤ SH v := c17
    refine lv_bipush (v := (-11)) Z.1 Z.2.1 dX8_bookIs_20 (by decide +kernel) ?_
    refine lv_goto (tgt := 42) Z.1 Z.2.1 dX8_bookIs_22 (by decide) ?_
    exact zk_reti Z hR_ hlk hK hQ G () (by unfold zm_book; rw [if_pos c4_0, zb_nat hv, if_pos (by first | exact Int32.not_le.mp c17 | exact c17)]) rfl dX8_bookIs_42
  have c4 : (zb_w 6 x) = false := zk_b0.mp c4
  refine lv_iconst (v := (-1)) Z.1 Z.2.1 dX8_bookIs_7 (by decide +kernel) ?_
  refine lv_goto (tgt := 42) Z.1 Z.2.1 dX8_bookIs_8 (by decide) ?_
  exact zk_reti Z hR_ hlk hK hQ G () (by unfold zm_book; rw [c4]; rfl) rfl dX8_bookIs_42
