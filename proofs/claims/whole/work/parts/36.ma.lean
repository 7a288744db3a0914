/-! The reference: its plain calls. -/
theorem zm_in_n {m : Nat} (hm : m < 2 ^ 31) (x : Int32) : zm_in x.toInt64 (lN 0) (lN m) = zb_w (m + 1) x := by
  rw [zm_in_c x 0 m (by decide) hm]
  simp only [zb_w]
  by_cases h : 0 ≤ x.toInt
  · rw [decide_eq_true (show ((0 : Nat) : Int) ≤ x.toInt from h), decide_eq_true h, Bool.true_and, Bool.true_and]
    congr 1; apply propext; omega
  · rw [decide_eq_false (show ¬ ((0 : Nat) : Int) ≤ x.toInt from h), decide_eq_false h]; rfl
theorem zr_kind_w (x : Int32) : zr_kind x = zb_w 8 x := by
  by_cases h : x < 0
  · rw [zb_w_neg h]; unfold zr_kind; rw [decide_eq_false (fun q => q h)]; rfl
  · obtain ⟨j, hj, rfl⟩ := nI_of h
    rw [zb_w_n hj]; unfold zr_kind; rw [decide_eq_true h, Bool.true_and]
    congr 1; apply propext
    constructor
    · intro q; exact zk_nle (a := 8) (by decide) hj q
    · intro q r; have := zk_le (a := 8) (by decide) hj r; omega
def zm_ab (k : Nat) : Nat := if k = 3 then 2 else if k = 4 then 1 else if k = 5 then 3 else if k = 7 then 4 else 0
def zm_re (SH : Nat → Int32) (MN : Nat → Nat) (x i : Int32) : Int32 := if zb_w 6 x = true then (if SH x.toInt.toNat < 0 then -11 else if SH x.toInt.toNat < 50 then -12 else if zb_w (MN x.toInt.toNat) i = true then nI 0 else -13) else -1
def zm_keep (zr : Nat) (x b : Int32) : Bool := zb_w 6 x && (decide (b = -1) || zb_w zr b)
def zm_rowok (x st nn : Int32) : Bool := zb_w 6 x && (zb_w 5 st && decide (nn ≤ 60))
def zm_row (x st nn : Int32) : Int32 := if zm_rowok x st nn = true then (if 0 ≤ nn then 1 else -14) else -1
def zm_wipe (IT : Nat → Int64) (d k : Nat) : Nat → Int64 := fun i => if 60 * d ≤ i ∧ i < k then lN 0 else IT i
theorem zm_wipe_0 (IT : Nat → Int64) (d : Nat) : zm_wipe IT d (60 * d) = IT := funext fun i => by simp only [zm_wipe]; rw [if_neg (by omega)]
theorem zm_wipe_s (IT : Nat → Int64) {d k : Nat} (h : 60 * d ≤ k) : vp_updL (zm_wipe IT d k) k (lN 0) = zm_wipe IT d (k + 1) := funext fun i => by
  simp only [vp_updL, zm_wipe]
  by_cases h1 : i = k
  · subst h1; rw [if_pos rfl, if_pos (by omega)]
  · rw [if_neg h1]
    by_cases h2 : 60 * d ≤ i ∧ i < k
    · rw [if_pos h2, if_pos (by omega)]
    · rw [if_neg h2, if_neg (by omega)]
def zm_cnt (MS : Nat → Int32) : Nat → Nat | 0 => 0 | k + 1 => zm_cnt MS k + (if 0 ≤ MS (4 * k + 3) then 1 else 0)
theorem zm_cnt_le (MS : Nat → Int32) : ∀ k, zm_cnt MS k ≤ k
  | 0 => Nat.le_refl 0
  | k + 1 => by have := zm_cnt_le MS k; simp only [zm_cnt]; split <;> omega
def zm_count (n m1 : Nat) (MS : Nat → Int32) (ln d zr rn : Nat) (what : Int32) : Int32 := if what = nI 0 then nI n else if what = nI 1 then nI m1 else if what = nI 2 then nI (zm_cnt MS m1) else if what = nI 3 then nI ln else if what = nI 4 then nI d else if what = nI 5 then nI zr else if what = nI 6 then nI rn else (-1)
def zm_sk (X : Nat → Nat) (k : Nat) : Nat → Nat := fun j => if j + 1 < k then X (j + 1) else X j
theorem zm_sk_s (X : Nat → Nat) {k : Nat} (h : 1 ≤ k) : zs_up (zm_sk X k) (k - 1) (X k) = zm_sk X (k + 1) := funext fun j => by
  simp only [zs_up, zm_sk]
  by_cases h1 : j = k - 1
  · subst h1; rw [if_pos rfl, if_pos (by omega), show k - 1 + 1 = k by omega]
  · rw [if_neg h1]
    by_cases h2 : j + 1 < k
    · rw [if_pos h2, if_pos (by omega)]
    · rw [if_neg h2, if_neg (by omega)]
theorem zm_sk_1 (X : Nat → Nat) : zm_sk X 1 = X := funext fun j => by simp only [zm_sk]; rw [if_neg (by omega)]
theorem zm_sk_40 (X : Nat → Nat) : zm_sk X 40 = zc_sh X := funext fun j => by
  simp only [zm_sk, zc_sh]
  by_cases h : j < 39
  · rw [if_pos (by omega), if_pos h]
  · rw [if_neg (by omega), if_neg h]
theorem zm_sk_at (X : Nat → Nat) (k : Nat) : zm_sk X k k = X k := by simp only [zm_sk]; rw [if_neg (by omega)]

abbrev rm_X8_isShelf : Room := { frames := 1, cells := 0, slots := 0, locals := 25 }
theorem dvX8_isShelf : zk_dv yX8_isShelf RX8 1 := by decide +kernel
theorem gmX8_isShelf_X8_within : GoodIn wmX8_isShelf (va_wsS RX8 97 yX8_within wmX8_within) := goodIn_app (wa8_w (List.forall_mem_cons.mpr ⟨wa8_41, List.forall_mem_cons.mpr ⟨wa8_42, List.forall_mem_cons.mpr ⟨wa8_43, fun _ h => absurd h List.not_mem_nil⟩⟩⟩)) (wa8_sub wa8_0)
set_option maxRecDepth 100000 in
set_option maxHeartbeats 1500000 in
theorem ct_X8_isShelf (l : Launch) (D : va_G) (g : Nat → ClassId) (τ : Nat → Nat) (x : Int32)  : zk_MI l D g τ yX8_isShelf wmX8_isShelf rm_X8_isShelf [.int x] [] (fun (r : Int32) (_ : Unit) => r = zk_b (zb_w 6 x)) (fun (_ : Unit) => []) := by
  refine zk_of (av := [.int x]) (W0 := []) (y := yX8_isShelf) (wd := wmX8_isShelf) (Qc := fun A => va_Qi (fun (r : Int32) (_ : Unit) => r = zk_b (zb_w 6 x)) (zk_B D g A (fun (_ : Unit) => [])) A) (cc := cX8_isShelf) (maxL := 1) (ret := (some .boolean)) (own := RX8) (by decide) rfl rfl (Nat.le_of_ble_eq_true rfl) ?_
  intro pP eE sS mM args below meth cC aA ls qQ Z hR_ hlk hnm hK hT hA hQ G hl
  refine lv_iload_n Z.1 Z.2.1 dX8_isShelf_0 rfl (lv_at hl 0 rfl) ?_
  refine lv_i2l (v := x.toInt64) Z.1 Z.2.1 dX8_isShelf_1 rfl ?_
  refine lv_lconst (v := lN 0) Z.1 Z.2.1 dX8_isShelf_2 (by decide +kernel) ?_
  refine lv_ldc2 (v := lN 5) Z.1 Z.2.1 Z.2.2.2.1 (Z.2.2.2.2 _ (List.mem_cons_of_mem _ wa8_65)) dX8_isShelf_3 ?_
  refine zk_ci (WF := fun (_ : Unit) => []) (wr := []) ⟨rfl, rfl⟩ (zk_rs (As := [.long x.toInt64, .long (lN 0), .long (lN 5)]) (rest := []) Z ((ct_X8_within l D g τ x.toInt64 (lN 0) (lN 5) ) sS.heap.size) hK hT hA G [] rfl (by decide) gmX8_isShelf_X8_within rfl dvX8_within ⟨by decide, by decide⟩ rfl hl.1 rfl (Nat.le_of_ble_eq_true rfl) dX8_isShelf_6 ⟨Nat.zero_le _, Nat.zero_le _⟩) hA G [] [] [] rfl rfl (by decide) (by decide) (by decide) (fun _ => rfl) (fun r_6 _ H locs w_6 G => ?_)
  obtain rfl : r_6 = zk_b (zm_in x.toInt64 (lN 0) (lN 5)) := w_6
  exact zk_retz Z hR_ hlk hK hQ G () (by rw [zm_in_n (by decide)]) rfl dX8_isShelf_9

abbrev rm_X8_isBody : Room := { frames := 1, cells := 0, slots := 0, locals := 25 }
theorem dvX8_isBody : zk_dv yX8_isBody RX8 1 := by decide +kernel
theorem gmX8_isBody_X8_within : GoodIn wmX8_isBody (va_wsS RX8 97 yX8_within wmX8_within) := goodIn_app (wa8_w (List.forall_mem_cons.mpr ⟨wa8_41, List.forall_mem_cons.mpr ⟨wa8_42, List.forall_mem_cons.mpr ⟨wa8_43, fun _ h => absurd h List.not_mem_nil⟩⟩⟩)) (wa8_sub wa8_0)
set_option maxRecDepth 100000 in
set_option maxHeartbeats 1500000 in
theorem ct_X8_isBody (l : Launch) (D : va_G) (g : Nat → ClassId) (τ : Nat → Nat) (b : Nat → Nat) (m : Nat → Int32) (zr : Nat) (x : Int32) (hz : zr ≤ 50) : zk_MI l D g τ yX8_isBody wmX8_isBody rm_X8_isBody [.ref (b 100), .int x] [(b 100, .inr (8, [.ref (b 0), .ref (b 1), .ref (b 2), .ref (b 3), .int (m 4), .int (m 5), .int (m 6), .int (m 7), .ref (b 8), .int (m 9), .ref (b 10), .int (m 11), .int (m 12), .int (m 13), .int (m 14), .int (m 15), .int (m 16), .ref (b 17), .ref (b 18), .ref (b 19), .ref (b 20), .ref (b 21), .ref (b 22), .ref (b 23), .ref (b 24), .int (m 25), .int (m 26), .int (m 27), .int (m 28), .ref (b 29), .ref (b 30), .int (m 31), .int (m 32), .int (m 33), .int (m 34), .int (m 35), .ref (b 36), .ref (b 37), .int (nI zr), .ref (b 39), .ref (b 40), .int (m 41), .int (m 42), .int (m 43), .ref (b 44), .ref (b 45), .ref (b 46), .ref (b 47)]))] (fun (r : Int32) (_ : Unit) => r = zk_b (zb_w zr x)) (fun (_ : Unit) => [(b 100, .inr (8, [.ref (b 0), .ref (b 1), .ref (b 2), .ref (b 3), .int (m 4), .int (m 5), .int (m 6), .int (m 7), .ref (b 8), .int (m 9), .ref (b 10), .int (m 11), .int (m 12), .int (m 13), .int (m 14), .int (m 15), .int (m 16), .ref (b 17), .ref (b 18), .ref (b 19), .ref (b 20), .ref (b 21), .ref (b 22), .ref (b 23), .ref (b 24), .int (m 25), .int (m 26), .int (m 27), .int (m 28), .ref (b 29), .ref (b 30), .int (m 31), .int (m 32), .int (m 33), .int (m 34), .int (m 35), .ref (b 36), .ref (b 37), .int (nI zr), .ref (b 39), .ref (b 40), .int (m 41), .int (m 42), .int (m 43), .ref (b 44), .ref (b 45), .ref (b 46), .ref (b 47)]))]) := by
  refine zk_of (av := [.ref (b 100), .int x]) (W0 := [(b 100, .inr (8, [.ref (b 0), .ref (b 1), .ref (b 2), .ref (b 3), .int (m 4), .int (m 5), .int (m 6), .int (m 7), .ref (b 8), .int (m 9), .ref (b 10), .int (m 11), .int (m 12), .int (m 13), .int (m 14), .int (m 15), .int (m 16), .ref (b 17), .ref (b 18), .ref (b 19), .ref (b 20), .ref (b 21), .ref (b 22), .ref (b 23), .ref (b 24), .int (m 25), .int (m 26), .int (m 27), .int (m 28), .ref (b 29), .ref (b 30), .int (m 31), .int (m 32), .int (m 33), .int (m 34), .int (m 35), .ref (b 36), .ref (b 37), .int (nI zr), .ref (b 39), .ref (b 40), .int (m 41), .int (m 42), .int (m 43), .ref (b 44), .ref (b 45), .ref (b 46), .ref (b 47)]))]) (y := yX8_isBody) (wd := wmX8_isBody) (Qc := fun A => va_Qi (fun (r : Int32) (_ : Unit) => r = zk_b (zb_w zr x)) (zk_B D g A (fun (_ : Unit) => [(b 100, .inr (8, [.ref (b 0), .ref (b 1), .ref (b 2), .ref (b 3), .int (m 4), .int (m 5), .int (m 6), .int (m 7), .ref (b 8), .int (m 9), .ref (b 10), .int (m 11), .int (m 12), .int (m 13), .int (m 14), .int (m 15), .int (m 16), .ref (b 17), .ref (b 18), .ref (b 19), .ref (b 20), .ref (b 21), .ref (b 22), .ref (b 23), .ref (b 24), .int (m 25), .int (m 26), .int (m 27), .int (m 28), .ref (b 29), .ref (b 30), .int (m 31), .int (m 32), .int (m 33), .int (m 34), .int (m 35), .ref (b 36), .ref (b 37), .int (nI zr), .ref (b 39), .ref (b 40), .int (m 41), .int (m 42), .int (m 43), .ref (b 44), .ref (b 45), .ref (b 46), .ref (b 47)]))])) A) (cc := cX8_isBody) (maxL := 2) (ret := (some .boolean)) (own := RX8) (by decide) rfl rfl (Nat.le_of_ble_eq_true rfl) ?_
  intro pP eE sS mM args below meth cC aA ls qQ Z hR_ hlk hnm hK hT hA hQ G hl
  have hinX8 : ∀ w ∈ u_ws RX8 TX8 48, w ∈ wmX8_isBody := wa8_in
  refine lv_iload_n Z.1 Z.2.1 dX8_isBody_0 rfl (lv_at hl 1 rfl) ?_
  refine lv_i2l (v := x.toInt64) Z.1 Z.2.1 dX8_isBody_1 rfl ?_
  refine lv_lconst (v := lN 0) Z.1 Z.2.1 dX8_isBody_2 (by decide +kernel) ?_
  refine lv_aload_n Z.1 Z.2.1 dX8_isBody_3 rfl (lv_at hl 0 rfl) ?_
  refine zk_get (C := RX8) (T := TX8) (N := 48) (ci := 8) Z hK G hinX8 0 rfl rfl 38 (by decide) (List.mem_cons_of_mem _ wa8_259) rfl (v := .int (nI zr)) rfl dX8_isBody_4 ?_
  refine lv_iconst (v := nI 1) Z.1 Z.2.1 dX8_isBody_7 (by decide +kernel) ?_
  refine zk_isub Z dX8_isBody_8 (z := nI zr - nI 1) rfl ?_
  refine lv_i2l (v := (nI zr - nI 1).toInt64) Z.1 Z.2.1 dX8_isBody_9 rfl ?_
  refine zk_ci (WF := fun (_ : Unit) => [(b 100, .inr (8, [.ref (b 0), .ref (b 1), .ref (b 2), .ref (b 3), .int (m 4), .int (m 5), .int (m 6), .int (m 7), .ref (b 8), .int (m 9), .ref (b 10), .int (m 11), .int (m 12), .int (m 13), .int (m 14), .int (m 15), .int (m 16), .ref (b 17), .ref (b 18), .ref (b 19), .ref (b 20), .ref (b 21), .ref (b 22), .ref (b 23), .ref (b 24), .int (m 25), .int (m 26), .int (m 27), .int (m 28), .ref (b 29), .ref (b 30), .int (m 31), .int (m 32), .int (m 33), .int (m 34), .int (m 35), .ref (b 36), .ref (b 37), .int (nI zr), .ref (b 39), .ref (b 40), .int (m 41), .int (m 42), .int (m 43), .ref (b 44), .ref (b 45), .ref (b 46), .ref (b 47)]))]) (wr := [(b 100, .inr (8, [.ref (b 0), .ref (b 1), .ref (b 2), .ref (b 3), .int (m 4), .int (m 5), .int (m 6), .int (m 7), .ref (b 8), .int (m 9), .ref (b 10), .int (m 11), .int (m 12), .int (m 13), .int (m 14), .int (m 15), .int (m 16), .ref (b 17), .ref (b 18), .ref (b 19), .ref (b 20), .ref (b 21), .ref (b 22), .ref (b 23), .ref (b 24), .int (m 25), .int (m 26), .int (m 27), .int (m 28), .ref (b 29), .ref (b 30), .int (m 31), .int (m 32), .int (m 33), .int (m 34), .int (m 35), .ref (b 36), .ref (b 37), .int (nI zr), .ref (b 39), .ref (b 40), .int (m 41), .int (m 42), .int (m 43), .ref (b 44), .ref (b 45), .ref (b 46), .ref (b 47)]))]) ⟨rfl, rfl⟩ (zk_rs (As := [.long x.toInt64, .long (lN 0), .long ((nI zr - nI 1).toInt64)]) (rest := []) Z ((ct_X8_within l D g τ x.toInt64 (lN 0) ((nI zr - nI 1).toInt64) ) sS.heap.size) hK hT hA G [] rfl (by decide) gmX8_isBody_X8_within rfl dvX8_within ⟨by decide, by decide⟩ rfl hl.1 rfl (Nat.le_of_ble_eq_true rfl) dX8_isBody_10 ⟨Nat.zero_le _, Nat.zero_le _⟩) hA G [] [0] [0] rfl rfl (by decide) (by decide) (by decide) (fun _ => rfl) (fun r_10 _ H locs w_10 G => ?_)
  obtain rfl : r_10 = zk_b (zm_in x.toInt64 (lN 0) ((nI zr - nI 1).toInt64)) := w_10
  exact zk_retz Z hR_ hlk hK hQ G () (by rw [zm_in_w (by omega)]) rfl dX8_isBody_13

abbrev rm_X8_kindOf : Room := { frames := 0, cells := 0, slots := 0, locals := 0 }
theorem dvX8_kindOf : zk_dv yX8_kindOf RX8 1 := by decide +kernel
set_option maxRecDepth 100000 in
set_option maxHeartbeats 1500000 in
theorem ct_X8_kindOf (l : Launch) (D : va_G) (g : Nat → ClassId) (τ : Nat → Nat) (b : Nat → Nat) (m : Nat → Int32) (KD : Nat → Nat) (j : Nat) (hj : j < 50) : zk_MI l D g τ yX8_kindOf wmX8_kindOf rm_X8_kindOf [.ref (b 100), .int (nI j)] [(b 100, .inr (8, [.ref (b 0), .ref (b 1), .ref (b 2), .ref (b 3), .int (m 4), .int (m 5), .int (m 6), .int (m 7), .ref (b 8), .int (m 9), .ref (b 10), .int (m 11), .int (m 12), .int (m 13), .int (m 14), .int (m 15), .int (m 16), .ref (b 17), .ref (b 18), .ref (b 19), .ref (b 20), .ref (b 21), .ref (b 22), .ref (b 23), .ref (b 24), .int (m 25), .int (m 26), .int (m 27), .int (m 28), .ref (b 29), .ref (b 30), .int (m 31), .int (m 32), .int (m 33), .int (m 34), .int (m 35), .ref (b 36), .ref (b 37), .int (m 38), .ref (b 39), .ref (b 40), .int (m 41), .int (m 42), .int (m 43), .ref (b 44), .ref (b 45), .ref (b 46), .ref (b 47)])), (b 39, .inl (g 0, 50, .inl (fun i => nI (KD i))))] (fun (r : Int32) (_ : Unit) => r = nI (KD j)) (fun (_ : Unit) => [(b 100, .inr (8, [.ref (b 0), .ref (b 1), .ref (b 2), .ref (b 3), .int (m 4), .int (m 5), .int (m 6), .int (m 7), .ref (b 8), .int (m 9), .ref (b 10), .int (m 11), .int (m 12), .int (m 13), .int (m 14), .int (m 15), .int (m 16), .ref (b 17), .ref (b 18), .ref (b 19), .ref (b 20), .ref (b 21), .ref (b 22), .ref (b 23), .ref (b 24), .int (m 25), .int (m 26), .int (m 27), .int (m 28), .ref (b 29), .ref (b 30), .int (m 31), .int (m 32), .int (m 33), .int (m 34), .int (m 35), .ref (b 36), .ref (b 37), .int (m 38), .ref (b 39), .ref (b 40), .int (m 41), .int (m 42), .int (m 43), .ref (b 44), .ref (b 45), .ref (b 46), .ref (b 47)])), (b 39, .inl (g 0, 50, .inl (fun i => nI (KD i))))]) := by
  refine zk_of (av := [.ref (b 100), .int (nI j)]) (W0 := [(b 100, .inr (8, [.ref (b 0), .ref (b 1), .ref (b 2), .ref (b 3), .int (m 4), .int (m 5), .int (m 6), .int (m 7), .ref (b 8), .int (m 9), .ref (b 10), .int (m 11), .int (m 12), .int (m 13), .int (m 14), .int (m 15), .int (m 16), .ref (b 17), .ref (b 18), .ref (b 19), .ref (b 20), .ref (b 21), .ref (b 22), .ref (b 23), .ref (b 24), .int (m 25), .int (m 26), .int (m 27), .int (m 28), .ref (b 29), .ref (b 30), .int (m 31), .int (m 32), .int (m 33), .int (m 34), .int (m 35), .ref (b 36), .ref (b 37), .int (m 38), .ref (b 39), .ref (b 40), .int (m 41), .int (m 42), .int (m 43), .ref (b 44), .ref (b 45), .ref (b 46), .ref (b 47)])), (b 39, .inl (g 0, 50, .inl (fun i => nI (KD i))))]) (y := yX8_kindOf) (wd := wmX8_kindOf) (Qc := fun A => va_Qi (fun (r : Int32) (_ : Unit) => r = nI (KD j)) (zk_B D g A (fun (_ : Unit) => [(b 100, .inr (8, [.ref (b 0), .ref (b 1), .ref (b 2), .ref (b 3), .int (m 4), .int (m 5), .int (m 6), .int (m 7), .ref (b 8), .int (m 9), .ref (b 10), .int (m 11), .int (m 12), .int (m 13), .int (m 14), .int (m 15), .int (m 16), .ref (b 17), .ref (b 18), .ref (b 19), .ref (b 20), .ref (b 21), .ref (b 22), .ref (b 23), .ref (b 24), .int (m 25), .int (m 26), .int (m 27), .int (m 28), .ref (b 29), .ref (b 30), .int (m 31), .int (m 32), .int (m 33), .int (m 34), .int (m 35), .ref (b 36), .ref (b 37), .int (m 38), .ref (b 39), .ref (b 40), .int (m 41), .int (m 42), .int (m 43), .ref (b 44), .ref (b 45), .ref (b 46), .ref (b 47)])), (b 39, .inl (g 0, 50, .inl (fun i => nI (KD i))))])) A) (cc := cX8_kindOf) (maxL := 2) (ret := (some .int)) (own := RX8) (by decide) rfl rfl (Nat.le_of_ble_eq_true rfl) ?_
  intro pP eE sS mM args below meth cC aA ls qQ Z hR_ hlk hnm hK hT hA hQ G hl
  have hinX8 : ∀ w ∈ u_ws RX8 TX8 48, w ∈ wmX8_kindOf := wa8_in
  refine lv_aload_n Z.1 Z.2.1 dX8_kindOf_0 rfl (lv_at hl 0 rfl) ?_
  refine zk_get (C := RX8) (T := TX8) (N := 48) (ci := 8) Z hK G hinX8 0 rfl rfl 39 (by decide) (List.mem_cons_of_mem _ wa8_26) rfl (v := .ref (b 39)) rfl dX8_kindOf_1 ?_
  refine lv_iload_n Z.1 Z.2.1 dX8_kindOf_4 rfl (lv_at hl 1 rfl) ?_
  refine zk_iald Z hK G 1 rfl (k := j) (by omega) (by decide) (v := nI (KD j)) rfl dX8_kindOf_5 ?_
  exact zk_reti Z hR_ hlk hK hQ G () rfl rfl dX8_kindOf_6

abbrev rm_X8_body : Room := { frames := 1, cells := 0, slots := 0, locals := 25 }
theorem dvX8_body : zk_dv yX8_body RX8 1 := by decide +kernel
theorem gmX8_body_X8_within : GoodIn wmX8_body (va_wsS RX8 97 yX8_within wmX8_within) := goodIn_app (wa8_w (List.forall_mem_cons.mpr ⟨wa8_41, List.forall_mem_cons.mpr ⟨wa8_42, List.forall_mem_cons.mpr ⟨wa8_43, fun _ h => absurd h List.not_mem_nil⟩⟩⟩)) (wa8_sub wa8_0)
set_option maxRecDepth 100000 in
set_option maxHeartbeats 1500000 in
theorem ct_X8_body (l : Launch) (D : va_G) (g : Nat → ClassId) (τ : Nat → Nat) (b : Nat → Nat) (m : Nat → Int32) (zr : Nat) (KD : Nat → Nat) (x : Int32) (hz : zr ≤ 50) : zk_MI l D g τ yX8_body wmX8_body rm_X8_body [.ref (b 100), .int x] [(b 100, .inr (8, [.ref (b 0), .ref (b 1), .ref (b 2), .ref (b 3), .int (m 4), .int (m 5), .int (m 6), .int (m 7), .ref (b 8), .int (m 9), .ref (b 10), .int (m 11), .int (m 12), .int (m 13), .int (m 14), .int (m 15), .int (m 16), .ref (b 17), .ref (b 18), .ref (b 19), .ref (b 20), .ref (b 21), .ref (b 22), .ref (b 23), .ref (b 24), .int (m 25), .int (m 26), .int (m 27), .int (m 28), .ref (b 29), .ref (b 30), .int (m 31), .int (m 32), .int (m 33), .int (m 34), .int (m 35), .ref (b 36), .ref (b 37), .int (nI zr), .ref (b 39), .ref (b 40), .int (m 41), .int (m 42), .int (m 43), .ref (b 44), .ref (b 45), .ref (b 46), .ref (b 47)])), (b 39, .inl (g 0, 50, .inl (fun i => nI (KD i))))] (fun (r : Int32) (_ : Unit) => r = zr_body zr x) (fun (_ : Unit) => [(b 100, .inr (8, [.ref (b 0), .ref (b 1), .ref (b 2), .ref (b 3), .int (m 4), .int (m 5), .int (m 6), .int (m 7), .ref (b 8), .int (m 9), .ref (b 10), .int (m 11), .int (m 12), .int (m 13), .int (m 14), .int (m 15), .int (m 16), .ref (b 17), .ref (b 18), .ref (b 19), .ref (b 20), .ref (b 21), .ref (b 22), .ref (b 23), .ref (b 24), .int (m 25), .int (m 26), .int (m 27), .int (m 28), .ref (b 29), .ref (b 30), .int (m 31), .int (m 32), .int (m 33), .int (m 34), .int (m 35), .ref (b 36), .ref (b 37), .int (nI (if (zr_kind x && decide (zr < 50)) = true then zr + 1 else zr)), .ref (b 39), .ref (b 40), .int (m 41), .int (m 42), .int (m 43), .ref (b 44), .ref (b 45), .ref (b 46), .ref (b 47)])), (b 39, .inl (g 0, 50, .inl (fun i => nI ((if (zr_kind x && decide (zr < 50)) = true then zs_up KD zr x.toInt.toNat else KD) i))))]) := by
  refine zk_of (av := [.ref (b 100), .int x]) (W0 := [(b 100, .inr (8, [.ref (b 0), .ref (b 1), .ref (b 2), .ref (b 3), .int (m 4), .int (m 5), .int (m 6), .int (m 7), .ref (b 8), .int (m 9), .ref (b 10), .int (m 11), .int (m 12), .int (m 13), .int (m 14), .int (m 15), .int (m 16), .ref (b 17), .ref (b 18), .ref (b 19), .ref (b 20), .ref (b 21), .ref (b 22), .ref (b 23), .ref (b 24), .int (m 25), .int (m 26), .int (m 27), .int (m 28), .ref (b 29), .ref (b 30), .int (m 31), .int (m 32), .int (m 33), .int (m 34), .int (m 35), .ref (b 36), .ref (b 37), .int (nI zr), .ref (b 39), .ref (b 40), .int (m 41), .int (m 42), .int (m 43), .ref (b 44), .ref (b 45), .ref (b 46), .ref (b 47)])), (b 39, .inl (g 0, 50, .inl (fun i => nI (KD i))))]) (y := yX8_body) (wd := wmX8_body) (Qc := fun A => va_Qi (fun (r : Int32) (_ : Unit) => r = zr_body zr x) (zk_B D g A (fun (_ : Unit) => [(b 100, .inr (8, [.ref (b 0), .ref (b 1), .ref (b 2), .ref (b 3), .int (m 4), .int (m 5), .int (m 6), .int (m 7), .ref (b 8), .int (m 9), .ref (b 10), .int (m 11), .int (m 12), .int (m 13), .int (m 14), .int (m 15), .int (m 16), .ref (b 17), .ref (b 18), .ref (b 19), .ref (b 20), .ref (b 21), .ref (b 22), .ref (b 23), .ref (b 24), .int (m 25), .int (m 26), .int (m 27), .int (m 28), .ref (b 29), .ref (b 30), .int (m 31), .int (m 32), .int (m 33), .int (m 34), .int (m 35), .ref (b 36), .ref (b 37), .int (nI (if (zr_kind x && decide (zr < 50)) = true then zr + 1 else zr)), .ref (b 39), .ref (b 40), .int (m 41), .int (m 42), .int (m 43), .ref (b 44), .ref (b 45), .ref (b 46), .ref (b 47)])), (b 39, .inl (g 0, 50, .inl (fun i => nI ((if (zr_kind x && decide (zr < 50)) = true then zs_up KD zr x.toInt.toNat else KD) i))))])) A) (cc := cX8_body) (maxL := 2) (ret := (some .int)) (own := RX8) (by decide) rfl rfl (Nat.le_of_ble_eq_true rfl) ?_
  intro pP eE sS mM args below meth cC aA ls qQ Z hR_ hlk hnm hK hT hA hQ G hl
  have hinX8 : ∀ w ∈ u_ws RX8 TX8 48, w ∈ wmX8_body := wa8_in
  refine lv_iload_n Z.1 Z.2.1 dX8_body_0 rfl (lv_at hl 1 rfl) ?_
  refine lv_i2l (v := x.toInt64) Z.1 Z.2.1 dX8_body_1 rfl ?_
  refine lv_lconst (v := lN 0) Z.1 Z.2.1 dX8_body_2 (by decide +kernel) ?_
  refine lv_ldc2 (v := lN 7) Z.1 Z.2.1 Z.2.2.2.1 (Z.2.2.2.2 _ (List.mem_cons_of_mem _ wa8_262)) dX8_body_3 ?_
  refine zk_ci (WF := fun (_ : Unit) => [(b 100, .inr (8, [.ref (b 0), .ref (b 1), .ref (b 2), .ref (b 3), .int (m 4), .int (m 5), .int (m 6), .int (m 7), .ref (b 8), .int (m 9), .ref (b 10), .int (m 11), .int (m 12), .int (m 13), .int (m 14), .int (m 15), .int (m 16), .ref (b 17), .ref (b 18), .ref (b 19), .ref (b 20), .ref (b 21), .ref (b 22), .ref (b 23), .ref (b 24), .int (m 25), .int (m 26), .int (m 27), .int (m 28), .ref (b 29), .ref (b 30), .int (m 31), .int (m 32), .int (m 33), .int (m 34), .int (m 35), .ref (b 36), .ref (b 37), .int (nI zr), .ref (b 39), .ref (b 40), .int (m 41), .int (m 42), .int (m 43), .ref (b 44), .ref (b 45), .ref (b 46), .ref (b 47)])), (b 39, .inl (g 0, 50, .inl (fun i => nI (KD i))))]) (wr := [(b 100, .inr (8, [.ref (b 0), .ref (b 1), .ref (b 2), .ref (b 3), .int (m 4), .int (m 5), .int (m 6), .int (m 7), .ref (b 8), .int (m 9), .ref (b 10), .int (m 11), .int (m 12), .int (m 13), .int (m 14), .int (m 15), .int (m 16), .ref (b 17), .ref (b 18), .ref (b 19), .ref (b 20), .ref (b 21), .ref (b 22), .ref (b 23), .ref (b 24), .int (m 25), .int (m 26), .int (m 27), .int (m 28), .ref (b 29), .ref (b 30), .int (m 31), .int (m 32), .int (m 33), .int (m 34), .int (m 35), .ref (b 36), .ref (b 37), .int (nI zr), .ref (b 39), .ref (b 40), .int (m 41), .int (m 42), .int (m 43), .ref (b 44), .ref (b 45), .ref (b 46), .ref (b 47)])), (b 39, .inl (g 0, 50, .inl (fun i => nI (KD i))))]) ⟨rfl, rfl⟩ (zk_rs (As := [.long x.toInt64, .long (lN 0), .long (lN 7)]) (rest := []) Z ((ct_X8_within l D g τ x.toInt64 (lN 0) (lN 7) ) sS.heap.size) hK hT hA G [] rfl (by decide) gmX8_body_X8_within rfl dvX8_within ⟨by decide, by decide⟩ rfl hl.1 rfl (Nat.le_of_ble_eq_true rfl) dX8_body_6 ⟨Nat.zero_le _, Nat.zero_le _⟩) hA G [] [0, 1] [0, 1] rfl rfl (by decide) (by decide) (by decide) (fun _ => rfl) (fun r_6 _ H locs w_6 G => ?_)
  obtain rfl : r_6 = zk_b (zm_in x.toInt64 (lN 0) (lN 7)) := w_6
  refine lv_if_ne (tgt := 14) Z.1 Z.2.1 dX8_body_9 (by decide) (fun c9 => ?_) (fun c9 => ?_)
  · have c9 : (zm_in x.toInt64 (lN 0) (lN 7)) = true := zk_b1.mp c9
    have c9_0 : zr_kind x = true := by rw [zr_kind_w, ← zm_in_n (m := 7) (by decide)]; exact c9
    obtain ⟨j, hj, rfl⟩ := zr_kind_ex c9_0
    refine lv_aload_n Z.1 Z.2.1 dX8_body_14 rfl (lv_at hl 0 rfl) ?_
    refine zk_get (C := RX8) (T := TX8) (N := 48) (ci := 8) Z hK G hinX8 0 rfl rfl 38 (by decide) (List.mem_cons_of_mem _ wa8_259) rfl (v := .int (nI zr)) rfl dX8_body_15 ?_
    refine lv_bipush (v := nI 50) Z.1 Z.2.1 dX8_body_18 (by decide +kernel) ?_
    refine lv_icmp_ne (tgt := 26) Z.1 Z.2.1 dX8_body_20 (by decide) (fun c20 => ?_) (fun c20 => ?_)
    · have c20 : zr ≠ 50 := zk_neq (by omega) (by omega) c20
      refine lv_aload_n Z.1 Z.2.1 dX8_body_26 rfl (lv_at hl 0 rfl) ?_
      refine zk_get (C := RX8) (T := TX8) (N := 48) (ci := 8) Z hK G hinX8 0 rfl rfl 39 (by decide) (List.mem_cons_of_mem _ wa8_26) rfl (v := .ref (b 39)) rfl dX8_body_27 ?_
      refine lv_aload_n Z.1 Z.2.1 dX8_body_30 rfl (lv_at hl 0 rfl) ?_
      refine zk_get (C := RX8) (T := TX8) (N := 48) (ci := 8) Z hK G hinX8 0 rfl rfl 38 (by decide) (List.mem_cons_of_mem _ wa8_259) rfl (v := .int (nI zr)) rfl dX8_body_31 ?_
      refine lv_iload_n Z.1 Z.2.1 dX8_body_34 rfl (lv_at hl 1 rfl) ?_
      refine zk_iast Z hK G 1 rfl (k := zr) (by omega) (by decide) (zs_up_n _ _ _) (ws' := [(b 100, .inr (8, [.ref (b 0), .ref (b 1), .ref (b 2), .ref (b 3), .int (m 4), .int (m 5), .int (m 6), .int (m 7), .ref (b 8), .int (m 9), .ref (b 10), .int (m 11), .int (m 12), .int (m 13), .int (m 14), .int (m 15), .int (m 16), .ref (b 17), .ref (b 18), .ref (b 19), .ref (b 20), .ref (b 21), .ref (b 22), .ref (b 23), .ref (b 24), .int (m 25), .int (m 26), .int (m 27), .int (m 28), .ref (b 29), .ref (b 30), .int (m 31), .int (m 32), .int (m 33), .int (m 34), .int (m 35), .ref (b 36), .ref (b 37), .int (nI zr), .ref (b 39), .ref (b 40), .int (m 41), .int (m 42), .int (m 43), .ref (b 44), .ref (b 45), .ref (b 46), .ref (b 47)])), (b 39, .inl (g 0, 50, .inl (fun i => nI (zs_up KD zr j i))))]) rfl dX8_body_35 (fun H locs G => ?_)
      refine lv_aload_n Z.1 Z.2.1 dX8_body_36 rfl (lv_at hl 0 rfl) ?_
      refine lv_dup Z.1 Z.2.1 dX8_body_37 rfl ?_
      refine zk_get (C := RX8) (T := TX8) (N := 48) (ci := 8) Z hK G hinX8 0 rfl rfl 38 (by decide) (List.mem_cons_of_mem _ wa8_259) rfl (v := .int (nI zr)) rfl dX8_body_38 ?_
      refine lv_iconst (v := nI 1) Z.1 Z.2.1 dX8_body_41 (by decide +kernel) ?_
      refine zk_iadd Z dX8_body_42 (z := nI (zr + 1)) (nI_add _ _) ?_
      refine zk_put tyX8 tyX8_ok nmX8 (C := RX8) (T := TX8) (N := 48) (ci := 8) Z hK G hinX8 0 rfl rfl 38 (by decide) (List.mem_cons_of_mem _ wa8_259) rfl rfl rfl rfl (Nat.le_of_ble_eq_true rfl) (ws' := [(b 100, .inr (8, [.ref (b 0), .ref (b 1), .ref (b 2), .ref (b 3), .int (m 4), .int (m 5), .int (m 6), .int (m 7), .ref (b 8), .int (m 9), .ref (b 10), .int (m 11), .int (m 12), .int (m 13), .int (m 14), .int (m 15), .int (m 16), .ref (b 17), .ref (b 18), .ref (b 19), .ref (b 20), .ref (b 21), .ref (b 22), .ref (b 23), .ref (b 24), .int (m 25), .int (m 26), .int (m 27), .int (m 28), .ref (b 29), .ref (b 30), .int (m 31), .int (m 32), .int (m 33), .int (m 34), .int (m 35), .ref (b 36), .ref (b 37), .int (nI (zr + 1)), .ref (b 39), .ref (b 40), .int (m 41), .int (m 42), .int (m 43), .ref (b 44), .ref (b 45), .ref (b 46), .ref (b 47)])), (b 39, .inl (g 0, 50, .inl (fun i => nI (zs_up KD zr j i))))]) rfl dX8_body_43 (fun H locs G => ?_)
      refine lv_aload_n Z.1 Z.2.1 dX8_body_46 rfl (lv_at hl 0 rfl) ?_
      refine zk_get (C := RX8) (T := TX8) (N := 48) (ci := 8) Z hK G hinX8 0 rfl rfl 38 (by decide) (List.mem_cons_of_mem _ wa8_259) rfl (v := .int (nI (zr + 1))) rfl dX8_body_47 ?_
      refine lv_iconst (v := nI 1) Z.1 Z.2.1 dX8_body_50 (by decide +kernel) ?_
      refine zk_isub Z dX8_body_51 (z := nI ((zr + 1) - 1)) (pk_sub (by omega)) ?_
      exact zk_reti Z hR_ hlk hK hQ G () (by unfold zr_body; rw [if_pos c9_0, if_pos (show zr < 50 by omega)]; rfl) (by rw [c9_0, decide_eq_true (show zr < 50 by omega), zb_nat (by omega)]; rfl) dX8_body_52
    have c20 : zr = 50 := zk_eq (by omega) (by omega) c20
    refine lv_bipush (v := (-3)) Z.1 Z.2.1 dX8_body_23 (by decide +kernel) ?_
    exact zk_reti Z hR_ hlk hK hQ G () (by unfold zr_body; rw [if_pos c9_0, if_neg (show ¬ zr < 50 by omega)]) (by rw [c9_0, decide_eq_false (show ¬ zr < 50 by omega)]; rfl) dX8_body_25
  have c9 : (zm_in x.toInt64 (lN 0) (lN 7)) = false := zk_b0.mp c9
  refine lv_iconst (v := (-1)) Z.1 Z.2.1 dX8_body_12 (by decide +kernel) ?_
  have c9_0 : zr_kind x = false := by rw [zr_kind_w, ← zm_in_n (m := 7) (by decide)]; exact c9
  exact zk_reti Z hR_ hlk hK hQ G () (by unfold zr_body; rw [c9_0]; rfl) (by rw [c9_0]; rfl) dX8_body_13

abbrev rm_X8_above : Room := { frames := 0, cells := 0, slots := 0, locals := 0 }
theorem dvX8_above : zk_dv yX8_above RX8 1 := by decide +kernel
set_option maxRecDepth 100000 in
set_option maxHeartbeats 1500000 in
theorem ct_X8_above (l : Launch) (D : va_G) (g : Nat → ClassId) (τ : Nat → Nat) (k : Nat) (hk : k < 8) : zk_MI l D g τ yX8_above wmX8_above rm_X8_above [.int (nI k)] [] (fun (r : Int32) (_ : Unit) => r = nI (zm_ab k)) (fun (_ : Unit) => []) := by
  refine zk_of (av := [.int (nI k)]) (W0 := []) (y := yX8_above) (wd := wmX8_above) (Qc := fun A => va_Qi (fun (r : Int32) (_ : Unit) => r = nI (zm_ab k)) (zk_B D g A (fun (_ : Unit) => [])) A) (cc := cX8_above) (maxL := 1) (ret := (some .int)) (own := RX8) (by decide) rfl rfl (Nat.le_of_ble_eq_true rfl) ?_
  intro pP eE sS mM args below meth cC aA ls qQ Z hR_ hlk hnm hK hT hA hQ G hl
  refine lv_iload_n Z.1 Z.2.1 dX8_above_0 rfl (lv_at hl 0 rfl) ?_
  refine lv_iconst (v := nI 3) Z.1 Z.2.1 dX8_above_1 (by decide +kernel) ?_
  refine lv_icmp_ne (tgt := 9) Z.1 Z.2.1 dX8_above_2 (by decide) (fun c2 => ?_) (fun c2 => ?_)
  · have c2 : k ≠ 3 := zk_neq (by omega) (by omega) c2
    refine lv_iload_n Z.1 Z.2.1 dX8_above_9 rfl (lv_at hl 0 rfl) ?_
    refine lv_iconst (v := nI 4) Z.1 Z.2.1 dX8_above_10 (by decide +kernel) ?_
    refine lv_icmp_ne (tgt := 18) Z.1 Z.2.1 dX8_above_11 (by decide) (fun c11 => ?_) (fun c11 => ?_)
    · have c11 : k ≠ 4 := zk_neq (by omega) (by omega) c11
      refine lv_iload_n Z.1 Z.2.1 dX8_above_18 rfl (lv_at hl 0 rfl) ?_
      refine lv_iconst (v := nI 5) Z.1 Z.2.1 dX8_above_19 (by decide +kernel) ?_
      refine lv_icmp_ne (tgt := 27) Z.1 Z.2.1 dX8_above_20 (by decide) (fun c20 => ?_) (fun c20 => ?_)
      · have c20 : k ≠ 5 := zk_neq (by omega) (by omega) c20
        refine lv_iload_n Z.1 Z.2.1 dX8_above_27 rfl (lv_at hl 0 rfl) ?_
        refine lv_bipush (v := nI 7) Z.1 Z.2.1 dX8_above_28 (by decide +kernel) ?_
        refine lv_icmp_ne (tgt := 37) Z.1 Z.2.1 dX8_above_30 (by decide) (fun c30 => ?_) (fun c30 => ?_)
        · have c30 : k ≠ 7 := zk_neq (by omega) (by omega) c30
          refine lv_iconst (v := nI 0) Z.1 Z.2.1 dX8_above_37 (by decide +kernel) ?_
          exact zk_reti Z hR_ hlk hK hQ G () (congrArg nI (by simp [zm_ab, c2, c11, c20, c30])) rfl dX8_above_38
        have c30 : k = 7 := zk_eq (by omega) (by omega) c30
        refine lv_iconst (v := nI 4) Z.1 Z.2.1 dX8_above_33 (by decide +kernel) ?_
        refine lv_goto (tgt := 38) Z.1 Z.2.1 dX8_above_34 (by decide) ?_
        exact zk_reti Z hR_ hlk hK hQ G () (congrArg nI (by simp [zm_ab, c2, c11, c20, c30])) rfl dX8_above_38
      have c20 : k = 5 := zk_eq (by omega) (by omega) c20
      refine lv_iconst (v := nI 3) Z.1 Z.2.1 dX8_above_23 (by decide +kernel) ?_
      refine lv_goto (tgt := 38) Z.1 Z.2.1 dX8_above_24 (by decide) ?_
      exact zk_reti Z hR_ hlk hK hQ G () (congrArg nI (by simp [zm_ab, c2, c11, c20])) rfl dX8_above_38
    have c11 : k = 4 := zk_eq (by omega) (by omega) c11
    refine lv_iconst (v := nI 1) Z.1 Z.2.1 dX8_above_14 (by decide +kernel) ?_
    refine lv_goto (tgt := 38) Z.1 Z.2.1 dX8_above_15 (by decide) ?_
    exact zk_reti Z hR_ hlk hK hQ G () (congrArg nI (by simp [zm_ab, c2, c11])) rfl dX8_above_38
  have c2 : k = 3 := zk_eq (by omega) (by omega) c2
  refine lv_iconst (v := nI 2) Z.1 Z.2.1 dX8_above_5 (by decide +kernel) ?_
  refine lv_goto (tgt := 38) Z.1 Z.2.1 dX8_above_6 (by decide) ?_
  exact zk_reti Z hR_ hlk hK hQ G () (congrArg nI (by simp [zm_ab, c2])) rfl dX8_above_38

abbrev rm_X8_begins : Room := { frames := 0, cells := 0, slots := 0, locals := 0 }
theorem dvX8_begins : zk_dv yX8_begins RX8 1 := by decide +kernel
set_option maxRecDepth 100000 in
set_option maxHeartbeats 1500000 in
theorem ct_X8_begins (l : Launch) (D : va_G) (g : Nat → ClassId) (τ : Nat → Nat) (b : Nat → Nat) (m : Nat → Int32) (rn : Nat) (TR : Nat → Nat) (bd : Nat) (hr : rn < 2 ^ 30) : zk_MV l D g τ yX8_begins wmX8_begins rm_X8_begins [.ref (b 100), .int (nI bd)] [(b 100, .inr (8, [.ref (b 0), .ref (b 1), .ref (b 2), .ref (b 3), .int (m 4), .int (m 5), .int (m 6), .int (m 7), .ref (b 8), .int (m 9), .ref (b 10), .int (m 11), .int (m 12), .int (m 13), .int (m 14), .int (m 15), .int (m 16), .ref (b 17), .ref (b 18), .ref (b 19), .ref (b 20), .ref (b 21), .ref (b 22), .ref (b 23), .ref (b 24), .int (m 25), .int (m 26), .int (m 27), .int (m 28), .ref (b 29), .ref (b 30), .int (m 31), .int (m 32), .int (m 33), .int (m 34), .int (m 35), .ref (b 36), .ref (b 37), .int (m 38), .ref (b 39), .ref (b 40), .int (nI rn), .int (m 42), .int (m 43), .ref (b 44), .ref (b 45), .ref (b 46), .ref (b 47)])), (b 40, .inl (g 0, 24, .inl (fun i => nI (TR i))))] (fun (_ : Unit) => True) (fun (_ : Unit) => [(b 100, .inr (8, [.ref (b 0), .ref (b 1), .ref (b 2), .ref (b 3), .int (m 4), .int (m 5), .int (m 6), .int (m 7), .ref (b 8), .int (m 9), .ref (b 10), .int (m 11), .int (m 12), .int (m 13), .int (m 14), .int (m 15), .int (m 16), .ref (b 17), .ref (b 18), .ref (b 19), .ref (b 20), .ref (b 21), .ref (b 22), .ref (b 23), .ref (b 24), .int (m 25), .int (m 26), .int (m 27), .int (m 28), .ref (b 29), .ref (b 30), .int (m 31), .int (m 32), .int (m 33), .int (m 34), .int (m 35), .ref (b 36), .ref (b 37), .int (m 38), .ref (b 39), .ref (b 40), .int (nI (rn + 1)), .int (m 42), .int (m 43), .ref (b 44), .ref (b 45), .ref (b 46), .ref (b 47)])), (b 40, .inl (g 0, 24, .inl (fun i => nI ((if rn < 24 then zs_up TR rn bd else TR) i))))]) := by
  refine zk_of (av := [.ref (b 100), .int (nI bd)]) (W0 := [(b 100, .inr (8, [.ref (b 0), .ref (b 1), .ref (b 2), .ref (b 3), .int (m 4), .int (m 5), .int (m 6), .int (m 7), .ref (b 8), .int (m 9), .ref (b 10), .int (m 11), .int (m 12), .int (m 13), .int (m 14), .int (m 15), .int (m 16), .ref (b 17), .ref (b 18), .ref (b 19), .ref (b 20), .ref (b 21), .ref (b 22), .ref (b 23), .ref (b 24), .int (m 25), .int (m 26), .int (m 27), .int (m 28), .ref (b 29), .ref (b 30), .int (m 31), .int (m 32), .int (m 33), .int (m 34), .int (m 35), .ref (b 36), .ref (b 37), .int (m 38), .ref (b 39), .ref (b 40), .int (nI rn), .int (m 42), .int (m 43), .ref (b 44), .ref (b 45), .ref (b 46), .ref (b 47)])), (b 40, .inl (g 0, 24, .inl (fun i => nI (TR i))))]) (y := yX8_begins) (wd := wmX8_begins) (Qc := fun A => va_Qv (fun (_ : Unit) => True) (zk_B D g A (fun (_ : Unit) => [(b 100, .inr (8, [.ref (b 0), .ref (b 1), .ref (b 2), .ref (b 3), .int (m 4), .int (m 5), .int (m 6), .int (m 7), .ref (b 8), .int (m 9), .ref (b 10), .int (m 11), .int (m 12), .int (m 13), .int (m 14), .int (m 15), .int (m 16), .ref (b 17), .ref (b 18), .ref (b 19), .ref (b 20), .ref (b 21), .ref (b 22), .ref (b 23), .ref (b 24), .int (m 25), .int (m 26), .int (m 27), .int (m 28), .ref (b 29), .ref (b 30), .int (m 31), .int (m 32), .int (m 33), .int (m 34), .int (m 35), .ref (b 36), .ref (b 37), .int (m 38), .ref (b 39), .ref (b 40), .int (nI (rn + 1)), .int (m 42), .int (m 43), .ref (b 44), .ref (b 45), .ref (b 46), .ref (b 47)])), (b 40, .inl (g 0, 24, .inl (fun i => nI ((if rn < 24 then zs_up TR rn bd else TR) i))))])) A) (cc := cX8_begins) (maxL := 2) (ret := none) (own := RX8) (by decide) rfl rfl (Nat.le_of_ble_eq_true rfl) ?_
  intro pP eE sS mM args below meth cC aA ls qQ Z hR_ hlk hnm hK hT hA hQ G hl
  have hinX8 : ∀ w ∈ u_ws RX8 TX8 48, w ∈ wmX8_begins := wa8_in
  refine lv_aload_n Z.1 Z.2.1 dX8_begins_0 rfl (lv_at hl 0 rfl) ?_
  refine zk_get (C := RX8) (T := TX8) (N := 48) (ci := 8) Z hK G hinX8 0 rfl rfl 41 (by decide) (List.mem_cons_of_mem _ wa8_265) rfl (v := .int (nI rn)) rfl dX8_begins_1 ?_
  refine lv_bipush (v := nI 24) Z.1 Z.2.1 dX8_begins_4 (by decide +kernel) ?_
  refine lv_icmp_ge (tgt := 19) Z.1 Z.2.1 dX8_begins_6 (by decide) (fun c6 => ?_) (fun c6 => ?_)
  · have c6 : 24 ≤ rn := zk_le (by omega) (by omega) c6
    refine lv_aload_n Z.1 Z.2.1 dX8_begins_19 rfl (lv_at hl 0 rfl) ?_
    refine lv_dup Z.1 Z.2.1 dX8_begins_20 rfl ?_
    refine zk_get (C := RX8) (T := TX8) (N := 48) (ci := 8) Z hK G hinX8 0 rfl rfl 41 (by decide) (List.mem_cons_of_mem _ wa8_265) rfl (v := .int (nI rn)) rfl dX8_begins_21 ?_
    refine lv_iconst (v := nI 1) Z.1 Z.2.1 dX8_begins_24 (by decide +kernel) ?_
    refine zk_iadd Z dX8_begins_25 (z := nI (rn + 1)) (nI_add _ _) ?_
    refine zk_put tyX8 tyX8_ok nmX8 (C := RX8) (T := TX8) (N := 48) (ci := 8) Z hK G hinX8 0 rfl rfl 41 (by decide) (List.mem_cons_of_mem _ wa8_265) rfl rfl rfl rfl (Nat.le_of_ble_eq_true rfl) (ws' := [(b 100, .inr (8, [.ref (b 0), .ref (b 1), .ref (b 2), .ref (b 3), .int (m 4), .int (m 5), .int (m 6), .int (m 7), .ref (b 8), .int (m 9), .ref (b 10), .int (m 11), .int (m 12), .int (m 13), .int (m 14), .int (m 15), .int (m 16), .ref (b 17), .ref (b 18), .ref (b 19), .ref (b 20), .ref (b 21), .ref (b 22), .ref (b 23), .ref (b 24), .int (m 25), .int (m 26), .int (m 27), .int (m 28), .ref (b 29), .ref (b 30), .int (m 31), .int (m 32), .int (m 33), .int (m 34), .int (m 35), .ref (b 36), .ref (b 37), .int (m 38), .ref (b 39), .ref (b 40), .int (nI (rn + 1)), .int (m 42), .int (m 43), .ref (b 44), .ref (b 45), .ref (b 46), .ref (b 47)])), (b 40, .inl (g 0, 24, .inl (fun i => nI (TR i))))]) rfl dX8_begins_26 (fun H locs G => ?_)
    exact zk_retv Z hR_ hlk hK hQ G () trivial (by rw [if_neg (by omega)]) dX8_begins_29
  have c6 : rn < 24 := zk_nle (by omega) (by omega) c6
  refine lv_aload_n Z.1 Z.2.1 dX8_begins_9 rfl (lv_at hl 0 rfl) ?_
  refine zk_get (C := RX8) (T := TX8) (N := 48) (ci := 8) Z hK G hinX8 0 rfl rfl 40 (by decide) (List.mem_cons_of_mem _ wa8_27) rfl (v := .ref (b 40)) rfl dX8_begins_10 ?_
  refine lv_aload_n Z.1 Z.2.1 dX8_begins_13 rfl (lv_at hl 0 rfl) ?_
  refine zk_get (C := RX8) (T := TX8) (N := 48) (ci := 8) Z hK G hinX8 0 rfl rfl 41 (by decide) (List.mem_cons_of_mem _ wa8_265) rfl (v := .int (nI rn)) rfl dX8_begins_14 ?_
  refine lv_iload_n Z.1 Z.2.1 dX8_begins_17 rfl (lv_at hl 1 rfl) ?_
  refine zk_iast Z hK G 1 rfl (k := rn) (by omega) (by decide) (zs_up_n _ _ _) (ws' := [(b 100, .inr (8, [.ref (b 0), .ref (b 1), .ref (b 2), .ref (b 3), .int (m 4), .int (m 5), .int (m 6), .int (m 7), .ref (b 8), .int (m 9), .ref (b 10), .int (m 11), .int (m 12), .int (m 13), .int (m 14), .int (m 15), .int (m 16), .ref (b 17), .ref (b 18), .ref (b 19), .ref (b 20), .ref (b 21), .ref (b 22), .ref (b 23), .ref (b 24), .int (m 25), .int (m 26), .int (m 27), .int (m 28), .ref (b 29), .ref (b 30), .int (m 31), .int (m 32), .int (m 33), .int (m 34), .int (m 35), .ref (b 36), .ref (b 37), .int (m 38), .ref (b 39), .ref (b 40), .int (nI rn), .int (m 42), .int (m 43), .ref (b 44), .ref (b 45), .ref (b 46), .ref (b 47)])), (b 40, .inl (g 0, 24, .inl (fun i => nI (zs_up TR rn bd i))))]) rfl dX8_begins_18 (fun H locs G => ?_)
  refine lv_aload_n Z.1 Z.2.1 dX8_begins_19 rfl (lv_at hl 0 rfl) ?_
  refine lv_dup Z.1 Z.2.1 dX8_begins_20 rfl ?_
  refine zk_get (C := RX8) (T := TX8) (N := 48) (ci := 8) Z hK G hinX8 0 rfl rfl 41 (by decide) (List.mem_cons_of_mem _ wa8_265) rfl (v := .int (nI rn)) rfl dX8_begins_21 ?_
  refine lv_iconst (v := nI 1) Z.1 Z.2.1 dX8_begins_24 (by decide +kernel) ?_
  refine zk_iadd Z dX8_begins_25 (z := nI (rn + 1)) (nI_add _ _) ?_
  refine zk_put tyX8 tyX8_ok nmX8 (C := RX8) (T := TX8) (N := 48) (ci := 8) Z hK G hinX8 0 rfl rfl 41 (by decide) (List.mem_cons_of_mem _ wa8_265) rfl rfl rfl rfl (Nat.le_of_ble_eq_true rfl) (ws' := [(b 100, .inr (8, [.ref (b 0), .ref (b 1), .ref (b 2), .ref (b 3), .int (m 4), .int (m 5), .int (m 6), .int (m 7), .ref (b 8), .int (m 9), .ref (b 10), .int (m 11), .int (m 12), .int (m 13), .int (m 14), .int (m 15), .int (m 16), .ref (b 17), .ref (b 18), .ref (b 19), .ref (b 20), .ref (b 21), .ref (b 22), .ref (b 23), .ref (b 24), .int (m 25), .int (m 26), .int (m 27), .int (m 28), .ref (b 29), .ref (b 30), .int (m 31), .int (m 32), .int (m 33), .int (m 34), .int (m 35), .ref (b 36), .ref (b 37), .int (m 38), .ref (b 39), .ref (b 40), .int (nI (rn + 1)), .int (m 42), .int (m 43), .ref (b 44), .ref (b 45), .ref (b 46), .ref (b 47)])), (b 40, .inl (g 0, 24, .inl (fun i => nI (zs_up TR rn bd i))))]) rfl dX8_begins_26 (fun H locs G => ?_)
  exact zk_retv Z hR_ hlk hK hQ G () trivial (by rw [if_pos c6]) dX8_begins_29

abbrev rm_X8_trace : Room := { frames := 0, cells := 0, slots := 0, locals := 0 }
theorem dvX8_trace : zk_dv yX8_trace RX8 1 := by decide +kernel
set_option maxRecDepth 100000 in
set_option maxHeartbeats 1500000 in
theorem ct_X8_trace (l : Launch) (D : va_G) (g : Nat → ClassId) (τ : Nat → Nat) (b : Nat → Nat) (m : Nat → Int32) (rn : Nat) (TR : Nat → Nat) (y : Int32) (hrn : rn < 2 ^ 30) : zk_MI l D g τ yX8_trace wmX8_trace rm_X8_trace [.ref (b 100), .int y] [(b 100, .inr (8, [.ref (b 0), .ref (b 1), .ref (b 2), .ref (b 3), .int (m 4), .int (m 5), .int (m 6), .int (m 7), .ref (b 8), .int (m 9), .ref (b 10), .int (m 11), .int (m 12), .int (m 13), .int (m 14), .int (m 15), .int (m 16), .ref (b 17), .ref (b 18), .ref (b 19), .ref (b 20), .ref (b 21), .ref (b 22), .ref (b 23), .ref (b 24), .int (m 25), .int (m 26), .int (m 27), .int (m 28), .ref (b 29), .ref (b 30), .int (m 31), .int (m 32), .int (m 33), .int (m 34), .int (m 35), .ref (b 36), .ref (b 37), .int (m 38), .ref (b 39), .ref (b 40), .int (nI rn), .int (m 42), .int (m 43), .ref (b 44), .ref (b 45), .ref (b 46), .ref (b 47)])), (b 40, .inl (g 0, 24, .inl (fun i => nI (TR i))))] (fun (r : Int32) (_ : Unit) => r = zr_trace rn TR y) (fun (_ : Unit) => [(b 100, .inr (8, [.ref (b 0), .ref (b 1), .ref (b 2), .ref (b 3), .int (m 4), .int (m 5), .int (m 6), .int (m 7), .ref (b 8), .int (m 9), .ref (b 10), .int (m 11), .int (m 12), .int (m 13), .int (m 14), .int (m 15), .int (m 16), .ref (b 17), .ref (b 18), .ref (b 19), .ref (b 20), .ref (b 21), .ref (b 22), .ref (b 23), .ref (b 24), .int (m 25), .int (m 26), .int (m 27), .int (m 28), .ref (b 29), .ref (b 30), .int (m 31), .int (m 32), .int (m 33), .int (m 34), .int (m 35), .ref (b 36), .ref (b 37), .int (m 38), .ref (b 39), .ref (b 40), .int (nI rn), .int (m 42), .int (m 43), .ref (b 44), .ref (b 45), .ref (b 46), .ref (b 47)])), (b 40, .inl (g 0, 24, .inl (fun i => nI (TR i))))]) := by
  refine zk_of (av := [.ref (b 100), .int y]) (W0 := [(b 100, .inr (8, [.ref (b 0), .ref (b 1), .ref (b 2), .ref (b 3), .int (m 4), .int (m 5), .int (m 6), .int (m 7), .ref (b 8), .int (m 9), .ref (b 10), .int (m 11), .int (m 12), .int (m 13), .int (m 14), .int (m 15), .int (m 16), .ref (b 17), .ref (b 18), .ref (b 19), .ref (b 20), .ref (b 21), .ref (b 22), .ref (b 23), .ref (b 24), .int (m 25), .int (m 26), .int (m 27), .int (m 28), .ref (b 29), .ref (b 30), .int (m 31), .int (m 32), .int (m 33), .int (m 34), .int (m 35), .ref (b 36), .ref (b 37), .int (m 38), .ref (b 39), .ref (b 40), .int (nI rn), .int (m 42), .int (m 43), .ref (b 44), .ref (b 45), .ref (b 46), .ref (b 47)])), (b 40, .inl (g 0, 24, .inl (fun i => nI (TR i))))]) (y := yX8_trace) (wd := wmX8_trace) (Qc := fun A => va_Qi (fun (r : Int32) (_ : Unit) => r = zr_trace rn TR y) (zk_B D g A (fun (_ : Unit) => [(b 100, .inr (8, [.ref (b 0), .ref (b 1), .ref (b 2), .ref (b 3), .int (m 4), .int (m 5), .int (m 6), .int (m 7), .ref (b 8), .int (m 9), .ref (b 10), .int (m 11), .int (m 12), .int (m 13), .int (m 14), .int (m 15), .int (m 16), .ref (b 17), .ref (b 18), .ref (b 19), .ref (b 20), .ref (b 21), .ref (b 22), .ref (b 23), .ref (b 24), .int (m 25), .int (m 26), .int (m 27), .int (m 28), .ref (b 29), .ref (b 30), .int (m 31), .int (m 32), .int (m 33), .int (m 34), .int (m 35), .ref (b 36), .ref (b 37), .int (m 38), .ref (b 39), .ref (b 40), .int (nI rn), .int (m 42), .int (m 43), .ref (b 44), .ref (b 45), .ref (b 46), .ref (b 47)])), (b 40, .inl (g 0, 24, .inl (fun i => nI (TR i))))])) A) (cc := cX8_trace) (maxL := 2) (ret := (some .int)) (own := RX8) (by decide) rfl rfl (Nat.le_of_ble_eq_true rfl) ?_
  intro pP eE sS mM args below meth cC aA ls qQ Z hR_ hlk hnm hK hT hA hQ G hl
  have hinX8 : ∀ w ∈ u_ws RX8 TX8 48, w ∈ wmX8_trace := wa8_in
  refine lv_iload_n Z.1 Z.2.1 dX8_trace_0 rfl (lv_at hl 1 rfl) ?_
  refine lv_if_lt (tgt := 27) Z.1 Z.2.1 dX8_trace_1 (by decide) (fun c1 => ?_) (fun c1 => ?_)
  · have c1 : y < 0 := c1
    refine lv_iconst (v := (-1)) Z.1 Z.2.1 dX8_trace_27 (by decide +kernel) ?_
    exact zk_reti Z hR_ hlk hK hQ G () (by unfold zr_trace; rw [zb_w_neg c1]; rfl) rfl dX8_trace_28
  have c1 : ¬ y < 0 := c1
  obtain ⟨j, hj, rfl⟩ := nI_of c1
  refine lv_iload_n Z.1 Z.2.1 dX8_trace_4 rfl (lv_at hl 1 rfl) ?_
  refine lv_aload_n Z.1 Z.2.1 dX8_trace_5 rfl (lv_at hl 0 rfl) ?_
  refine zk_get (C := RX8) (T := TX8) (N := 48) (ci := 8) Z hK G hinX8 0 rfl rfl 41 (by decide) (List.mem_cons_of_mem _ wa8_265) rfl (v := .int (nI rn)) rfl dX8_trace_6 ?_
  refine lv_icmp_ge (tgt := 27) Z.1 Z.2.1 dX8_trace_9 (by decide) (fun c9 => ?_) (fun c9 => ?_)
  · have c9 : rn ≤ j := zk_le (by omega) (by omega) c9
    refine lv_iconst (v := (-1)) Z.1 Z.2.1 dX8_trace_27 (by decide +kernel) ?_
    exact zk_reti Z hR_ hlk hK hQ G () (by unfold zr_trace; rw [zb_w_n hj, zb_w_n hj, decide_eq_false (Nat.not_lt.mpr c9), Bool.and_false]; rfl) rfl dX8_trace_28
  have c9 : j < rn := zk_nle (by omega) (by omega) c9
  refine lv_iload_n Z.1 Z.2.1 dX8_trace_12 rfl (lv_at hl 1 rfl) ?_
  refine lv_bipush (v := nI 24) Z.1 Z.2.1 dX8_trace_13 (by decide +kernel) ?_
  refine lv_icmp_ge (tgt := 27) Z.1 Z.2.1 dX8_trace_15 (by decide) (fun c15 => ?_) (fun c15 => ?_)
  · have c15 : 24 ≤ j := zk_le (by omega) (by omega) c15
    refine lv_iconst (v := (-1)) Z.1 Z.2.1 dX8_trace_27 (by decide +kernel) ?_
    exact zk_reti Z hR_ hlk hK hQ G () (by unfold zr_trace; rw [zb_w_n hj, decide_eq_false (Nat.not_lt.mpr c15)]; rfl) rfl dX8_trace_28
  have c15 : j < 24 := zk_nle (by omega) (by omega) c15
  refine lv_aload_n Z.1 Z.2.1 dX8_trace_18 rfl (lv_at hl 0 rfl) ?_
  refine zk_get (C := RX8) (T := TX8) (N := 48) (ci := 8) Z hK G hinX8 0 rfl rfl 40 (by decide) (List.mem_cons_of_mem _ wa8_27) rfl (v := .ref (b 40)) rfl dX8_trace_19 ?_
  refine lv_iload_n Z.1 Z.2.1 dX8_trace_22 rfl (lv_at hl 1 rfl) ?_
  refine zk_iald Z hK G 1 rfl (k := j) (by omega) (by decide) (v := nI (TR j)) rfl dX8_trace_23 ?_
  refine lv_goto (tgt := 28) Z.1 Z.2.1 dX8_trace_24 (by decide) ?_
  exact zk_reti Z hR_ hlk hK hQ G () (by unfold zr_trace; rw [zb_w_n hj, zb_w_n hj, decide_eq_true c9, decide_eq_true c15, zb_nat hj]; rfl) rfl dX8_trace_28

abbrev rm_X8_keep : Room := { frames := 2, cells := 0, slots := 0, locals := 46 }
theorem dvX8_keep : zk_dv yX8_keep RX8 2 := by decide +kernel
theorem gmX8_keep_X8_isShelf : GoodIn wmX8_keep (va_wsS RX8 118 yX8_isShelf wmX8_isShelf) := goodIn_app (wa8_w (List.forall_mem_cons.mpr ⟨wa8_62, List.forall_mem_cons.mpr ⟨wa8_63, List.forall_mem_cons.mpr ⟨wa8_43, fun _ h => absurd h List.not_mem_nil⟩⟩⟩)) (wa8_sub wa8_64)
theorem gmX8_keep_X8_isBody : GoodIn wmX8_keep (wsV RX8 343 RX8 yX8_isBody wmX8_isBody) := goodIn_app (wa8_w (List.forall_mem_cons.mpr ⟨wa8_288, List.forall_mem_cons.mpr ⟨wa8_289, List.forall_mem_cons.mpr ⟨wa8_290, List.forall_mem_cons.mpr ⟨wa8_43, fun _ h => absurd h List.not_mem_nil⟩⟩⟩⟩)) (wa8_sub wa8_258)
set_option maxRecDepth 100000 in
set_option maxHeartbeats 1500000 in
theorem ct_X8_keep (l : Launch) (D : va_G) (g : Nat → ClassId) (τ : Nat → Nat) (b : Nat → Nat) (m : Nat → Int32) (zr : Nat) (SH : Nat → Int32) (MN : Nat → Nat) (x : Int32) (y : Int32) (hz : zr ≤ 50) : zk_MI l D g τ yX8_keep wmX8_keep rm_X8_keep [.ref (b 100), .int x, .int y] [(b 100, .inr (8, [.ref (b 0), .ref (b 1), .ref (b 2), .ref (b 3), .int (m 4), .int (m 5), .int (m 6), .int (m 7), .ref (b 8), .int (m 9), .ref (b 10), .int (m 11), .int (m 12), .int (m 13), .int (m 14), .int (m 15), .int (m 16), .ref (b 17), .ref (b 18), .ref (b 19), .ref (b 20), .ref (b 21), .ref (b 22), .ref (b 23), .ref (b 24), .int (m 25), .int (m 26), .int (m 27), .int (m 28), .ref (b 29), .ref (b 30), .int (m 31), .int (m 32), .int (m 33), .int (m 34), .int (m 35), .ref (b 36), .ref (b 37), .int (nI zr), .ref (b 39), .ref (b 40), .int (m 41), .int (m 42), .int (m 43), .ref (b 44), .ref (b 45), .ref (b 46), .ref (b 47)])), (b 44, .inl (g 0, 6, .inl SH)), (b 45, .inl (g 0, 6, .inl (fun i => nI (MN i))))] (fun (r : Int32) (_ : Unit) => r = if zm_keep zr x y = true then 1 else (-1)) (fun (_ : Unit) => [(b 100, .inr (8, [.ref (b 0), .ref (b 1), .ref (b 2), .ref (b 3), .int (m 4), .int (m 5), .int (m 6), .int (m 7), .ref (b 8), .int (m 9), .ref (b 10), .int (m 11), .int (m 12), .int (m 13), .int (m 14), .int (m 15), .int (m 16), .ref (b 17), .ref (b 18), .ref (b 19), .ref (b 20), .ref (b 21), .ref (b 22), .ref (b 23), .ref (b 24), .int (m 25), .int (m 26), .int (m 27), .int (m 28), .ref (b 29), .ref (b 30), .int (m 31), .int (m 32), .int (m 33), .int (m 34), .int (m 35), .ref (b 36), .ref (b 37), .int (nI zr), .ref (b 39), .ref (b 40), .int (m 41), .int (m 42), .int (m 43), .ref (b 44), .ref (b 45), .ref (b 46), .ref (b 47)])), (b 44, .inl (g 0, 6, .inl (if zm_keep zr x y = true then upd SH (x.toInt.toNat) y else SH))), (b 45, .inl (g 0, 6, .inl (fun i => nI ((if zm_keep zr x y = true then zs_up MN (x.toInt.toNat) 0 else MN) i))))]) := by
  refine zk_of (av := [.ref (b 100), .int x, .int y]) (W0 := [(b 100, .inr (8, [.ref (b 0), .ref (b 1), .ref (b 2), .ref (b 3), .int (m 4), .int (m 5), .int (m 6), .int (m 7), .ref (b 8), .int (m 9), .ref (b 10), .int (m 11), .int (m 12), .int (m 13), .int (m 14), .int (m 15), .int (m 16), .ref (b 17), .ref (b 18), .ref (b 19), .ref (b 20), .ref (b 21), .ref (b 22), .ref (b 23), .ref (b 24), .int (m 25), .int (m 26), .int (m 27), .int (m 28), .ref (b 29), .ref (b 30), .int (m 31), .int (m 32), .int (m 33), .int (m 34), .int (m 35), .ref (b 36), .ref (b 37), .int (nI zr), .ref (b 39), .ref (b 40), .int (m 41), .int (m 42), .int (m 43), .ref (b 44), .ref (b 45), .ref (b 46), .ref (b 47)])), (b 44, .inl (g 0, 6, .inl SH)), (b 45, .inl (g 0, 6, .inl (fun i => nI (MN i))))]) (y := yX8_keep) (wd := wmX8_keep) (Qc := fun A => va_Qi (fun (r : Int32) (_ : Unit) => r = if zm_keep zr x y = true then 1 else (-1)) (zk_B D g A (fun (_ : Unit) => [(b 100, .inr (8, [.ref (b 0), .ref (b 1), .ref (b 2), .ref (b 3), .int (m 4), .int (m 5), .int (m 6), .int (m 7), .ref (b 8), .int (m 9), .ref (b 10), .int (m 11), .int (m 12), .int (m 13), .int (m 14), .int (m 15), .int (m 16), .ref (b 17), .ref (b 18), .ref (b 19), .ref (b 20), .ref (b 21), .ref (b 22), .ref (b 23), .ref (b 24), .int (m 25), .int (m 26), .int (m 27), .int (m 28), .ref (b 29), .ref (b 30), .int (m 31), .int (m 32), .int (m 33), .int (m 34), .int (m 35), .ref (b 36), .ref (b 37), .int (nI zr), .ref (b 39), .ref (b 40), .int (m 41), .int (m 42), .int (m 43), .ref (b 44), .ref (b 45), .ref (b 46), .ref (b 47)])), (b 44, .inl (g 0, 6, .inl (if zm_keep zr x y = true then upd SH (x.toInt.toNat) y else SH))), (b 45, .inl (g 0, 6, .inl (fun i => nI ((if zm_keep zr x y = true then zs_up MN (x.toInt.toNat) 0 else MN) i))))])) A) (cc := cX8_keep) (maxL := 3) (ret := (some .int)) (own := RX8) (by decide) rfl rfl (Nat.le_of_ble_eq_true rfl) ?_
  intro pP eE sS mM args below meth cC aA ls qQ Z hR_ hlk hnm hK hT hA hQ G hl
  have hinX8 : ∀ w ∈ u_ws RX8 TX8 48, w ∈ wmX8_keep := wa8_in
  refine lv_iload_n Z.1 Z.2.1 dX8_keep_0 rfl (lv_at hl 1 rfl) ?_
  refine zk_ci (WF := fun (_ : Unit) => [(b 100, .inr (8, [.ref (b 0), .ref (b 1), .ref (b 2), .ref (b 3), .int (m 4), .int (m 5), .int (m 6), .int (m 7), .ref (b 8), .int (m 9), .ref (b 10), .int (m 11), .int (m 12), .int (m 13), .int (m 14), .int (m 15), .int (m 16), .ref (b 17), .ref (b 18), .ref (b 19), .ref (b 20), .ref (b 21), .ref (b 22), .ref (b 23), .ref (b 24), .int (m 25), .int (m 26), .int (m 27), .int (m 28), .ref (b 29), .ref (b 30), .int (m 31), .int (m 32), .int (m 33), .int (m 34), .int (m 35), .ref (b 36), .ref (b 37), .int (nI zr), .ref (b 39), .ref (b 40), .int (m 41), .int (m 42), .int (m 43), .ref (b 44), .ref (b 45), .ref (b 46), .ref (b 47)])), (b 44, .inl (g 0, 6, .inl SH)), (b 45, .inl (g 0, 6, .inl (fun i => nI (MN i))))]) (wr := [(b 100, .inr (8, [.ref (b 0), .ref (b 1), .ref (b 2), .ref (b 3), .int (m 4), .int (m 5), .int (m 6), .int (m 7), .ref (b 8), .int (m 9), .ref (b 10), .int (m 11), .int (m 12), .int (m 13), .int (m 14), .int (m 15), .int (m 16), .ref (b 17), .ref (b 18), .ref (b 19), .ref (b 20), .ref (b 21), .ref (b 22), .ref (b 23), .ref (b 24), .int (m 25), .int (m 26), .int (m 27), .int (m 28), .ref (b 29), .ref (b 30), .int (m 31), .int (m 32), .int (m 33), .int (m 34), .int (m 35), .ref (b 36), .ref (b 37), .int (nI zr), .ref (b 39), .ref (b 40), .int (m 41), .int (m 42), .int (m 43), .ref (b 44), .ref (b 45), .ref (b 46), .ref (b 47)])), (b 44, .inl (g 0, 6, .inl SH)), (b 45, .inl (g 0, 6, .inl (fun i => nI (MN i))))]) ⟨rfl, rfl⟩ (zk_rs (As := [.int x]) (rest := []) Z ((ct_X8_isShelf l D g τ x ) sS.heap.size) hK hT hA G [] rfl (by decide) gmX8_keep_X8_isShelf rfl dvX8_isShelf ⟨by decide, by decide⟩ rfl hl.1 rfl (Nat.le_of_ble_eq_true rfl) dX8_keep_1 ⟨Nat.zero_le _, Nat.zero_le _⟩) hA G [] [0, 1, 2] [0, 1, 2] rfl rfl (by decide) (by decide) (by decide) (fun _ => rfl) (fun r_1 _ H locs w_1 G => ?_)
  obtain rfl : r_1 = zk_b (zb_w 6 x) := w_1
  refine lv_if_eq (tgt := 20) Z.1 Z.2.1 dX8_keep_4 (by decide) (fun c4 => ?_) (fun c4 => ?_)
  · have c4 : (zb_w 6 x) = false := zk_b0.mp c4
    refine lv_iconst (v := (-1)) Z.1 Z.2.1 dX8_keep_20 (by decide +kernel) ?_
    have hk9 : ¬ zm_keep zr x y = true := by unfold zm_keep; rw [c4]; simp
    exact zk_reti Z hR_ hlk hK hQ G () (by rw [if_neg hk9]) (by rw [if_neg hk9, if_neg hk9]) dX8_keep_21
  have c4 : (zb_w 6 x) = true := zk_b1.mp c4
  have c4_0 := c4
  obtain ⟨d, hd, rfl, hd2⟩ := zb_w_ex c4
  refine lv_iload_n Z.1 Z.2.1 dX8_keep_7 rfl (lv_at hl 2 rfl) ?_
  refine lv_iconst (v := (-1)) Z.1 Z.2.1 dX8_keep_8 (by decide +kernel) ?_
  refine lv_icmp_eq (tgt := 22) Z.1 Z.2.1 dX8_keep_9 (by decide) (fun c9 => ?_) (fun c9 => ?_)
  · have c9 : y = (-1) := c9
    refine lv_aload_n Z.1 Z.2.1 dX8_keep_22 rfl (lv_at hl 0 rfl) ?_
    refine zk_get (C := RX8) (T := TX8) (N := 48) (ci := 8) Z hK G hinX8 0 rfl rfl 44 (by decide) (List.mem_cons_of_mem _ wa8_28) rfl (v := .ref (b 44)) rfl dX8_keep_23 ?_
    refine lv_iload_n Z.1 Z.2.1 dX8_keep_26 rfl (lv_at hl 1 rfl) ?_
    refine lv_iload_n Z.1 Z.2.1 dX8_keep_27 rfl (lv_at hl 2 rfl) ?_
    refine zk_iast Z hK G 1 rfl (k := d) (by omega) (by decide) rfl (ws' := [(b 100, .inr (8, [.ref (b 0), .ref (b 1), .ref (b 2), .ref (b 3), .int (m 4), .int (m 5), .int (m 6), .int (m 7), .ref (b 8), .int (m 9), .ref (b 10), .int (m 11), .int (m 12), .int (m 13), .int (m 14), .int (m 15), .int (m 16), .ref (b 17), .ref (b 18), .ref (b 19), .ref (b 20), .ref (b 21), .ref (b 22), .ref (b 23), .ref (b 24), .int (m 25), .int (m 26), .int (m 27), .int (m 28), .ref (b 29), .ref (b 30), .int (m 31), .int (m 32), .int (m 33), .int (m 34), .int (m 35), .ref (b 36), .ref (b 37), .int (nI zr), .ref (b 39), .ref (b 40), .int (m 41), .int (m 42), .int (m 43), .ref (b 44), .ref (b 45), .ref (b 46), .ref (b 47)])), (b 44, .inl (g 0, 6, .inl (upd SH d y))), (b 45, .inl (g 0, 6, .inl (fun i => nI (MN i))))]) rfl dX8_keep_28 (fun H locs G => ?_)
    refine lv_aload_n Z.1 Z.2.1 dX8_keep_29 rfl (lv_at hl 0 rfl) ?_
    refine zk_get (C := RX8) (T := TX8) (N := 48) (ci := 8) Z hK G hinX8 0 rfl rfl 45 (by decide) (List.mem_cons_of_mem _ wa8_29) rfl (v := .ref (b 45)) rfl dX8_keep_30 ?_
    refine lv_iload_n Z.1 Z.2.1 dX8_keep_33 rfl (lv_at hl 1 rfl) ?_
    refine lv_iconst (v := nI 0) Z.1 Z.2.1 dX8_keep_34 (by decide +kernel) ?_
    refine zk_iast Z hK G 2 rfl (k := d) (by omega) (by decide) (zs_up_n _ _ _) (ws' := [(b 100, .inr (8, [.ref (b 0), .ref (b 1), .ref (b 2), .ref (b 3), .int (m 4), .int (m 5), .int (m 6), .int (m 7), .ref (b 8), .int (m 9), .ref (b 10), .int (m 11), .int (m 12), .int (m 13), .int (m 14), .int (m 15), .int (m 16), .ref (b 17), .ref (b 18), .ref (b 19), .ref (b 20), .ref (b 21), .ref (b 22), .ref (b 23), .ref (b 24), .int (m 25), .int (m 26), .int (m 27), .int (m 28), .ref (b 29), .ref (b 30), .int (m 31), .int (m 32), .int (m 33), .int (m 34), .int (m 35), .ref (b 36), .ref (b 37), .int (nI zr), .ref (b 39), .ref (b 40), .int (m 41), .int (m 42), .int (m 43), .ref (b 44), .ref (b 45), .ref (b 46), .ref (b 47)])), (b 44, .inl (g 0, 6, .inl (upd SH d y))), (b 45, .inl (g 0, 6, .inl (fun i => nI (zs_up MN d 0 i))))]) rfl dX8_keep_35 (fun H locs G => ?_)
    refine lv_iconst (v := nI 1) Z.1 Z.2.1 dX8_keep_36 (by decide +kernel) ?_
    have hk9 : zm_keep zr (nI d) y = true := by unfold zm_keep; rw [c4_0, decide_eq_true c9, Bool.true_or]; rfl
    exact zk_reti Z hR_ hlk hK hQ G () (by rw [if_pos hk9]; rfl) (by rw [if_pos hk9, if_pos hk9, zb_nat hd]) dX8_keep_37
  have c9 : ¬ y = (-1) := c9
  refine lv_aload_n Z.1 Z.2.1 dX8_keep_12 rfl (lv_at hl 0 rfl) ?_
  refine lv_iload_n Z.1 Z.2.1 dX8_keep_13 rfl (lv_at hl 2 rfl) ?_
  refine zk_ci (WF := fun (_ : Unit) => [(b 100, .inr (8, [.ref (b 0), .ref (b 1), .ref (b 2), .ref (b 3), .int (m 4), .int (m 5), .int (m 6), .int (m 7), .ref (b 8), .int (m 9), .ref (b 10), .int (m 11), .int (m 12), .int (m 13), .int (m 14), .int (m 15), .int (m 16), .ref (b 17), .ref (b 18), .ref (b 19), .ref (b 20), .ref (b 21), .ref (b 22), .ref (b 23), .ref (b 24), .int (m 25), .int (m 26), .int (m 27), .int (m 28), .ref (b 29), .ref (b 30), .int (m 31), .int (m 32), .int (m 33), .int (m 34), .int (m 35), .ref (b 36), .ref (b 37), .int (nI zr), .ref (b 39), .ref (b 40), .int (m 41), .int (m 42), .int (m 43), .ref (b 44), .ref (b 45), .ref (b 46), .ref (b 47)])), (b 44, .inl (g 0, 6, .inl SH)), (b 45, .inl (g 0, 6, .inl (fun i => nI (MN i))))]) (wr := [(b 44, .inl (g 0, 6, .inl SH)), (b 45, .inl (g 0, 6, .inl (fun i => nI (MN i))))]) ⟨rfl, rfl⟩ (zk_rv (As := [.int y]) (rest := []) (q0 := 0) (ci := 8) Z ((ct_X8_isBody l D g τ b m zr y (by exact hz)) H.size) hK hT hA G [0] rfl (by decide) rfl rfl gmX8_keep_X8_isBody rfl dvX8_isBody ⟨by decide, by decide⟩ rfl hl.1 rfl (Nat.le_of_ble_eq_true rfl) dX8_keep_14 ⟨Nat.zero_le _, Nat.zero_le _⟩) hA G [0] [1, 2] [2, 0, 1] rfl rfl (by decide) (by decide) (by decide) (fun _ => rfl) (fun r_14 _ H locs w_14 G => ?_)
  obtain rfl : r_14 = zk_b (zb_w zr y) := w_14
  refine lv_if_ne (tgt := 22) Z.1 Z.2.1 dX8_keep_17 (by decide) (fun c17 => ?_) (fun c17 => ?_)
  · have c17 : (zb_w zr y) = true := zk_b1.mp c17
    refine lv_aload_n Z.1 Z.2.1 dX8_keep_22 rfl (lv_at hl 0 rfl) ?_
    refine zk_get (C := RX8) (T := TX8) (N := 48) (ci := 8) Z hK G hinX8 0 rfl rfl 44 (by decide) (List.mem_cons_of_mem _ wa8_28) rfl (v := .ref (b 44)) rfl dX8_keep_23 ?_
    refine lv_iload_n Z.1 Z.2.1 dX8_keep_26 rfl (lv_at hl 1 rfl) ?_
    refine lv_iload_n Z.1 Z.2.1 dX8_keep_27 rfl (lv_at hl 2 rfl) ?_
    refine zk_iast Z hK G 1 rfl (k := d) (by omega) (by decide) rfl (ws' := [(b 100, .inr (8, [.ref (b 0), .ref (b 1), .ref (b 2), .ref (b 3), .int (m 4), .int (m 5), .int (m 6), .int (m 7), .ref (b 8), .int (m 9), .ref (b 10), .int (m 11), .int (m 12), .int (m 13), .int (m 14), .int (m 15), .int (m 16), .ref (b 17), .ref (b 18), .ref (b 19), .ref (b 20), .ref (b 21), .ref (b 22), .ref (b 23), .ref (b 24), .int (m 25), .int (m 26), .int (m 27), .int (m 28), .ref (b 29), .ref (b 30), .int (m 31), .int (m 32), .int (m 33), .int (m 34), .int (m 35), .ref (b 36), .ref (b 37), .int (nI zr), .ref (b 39), .ref (b 40), .int (m 41), .int (m 42), .int (m 43), .ref (b 44), .ref (b 45), .ref (b 46), .ref (b 47)])), (b 44, .inl (g 0, 6, .inl (upd SH d y))), (b 45, .inl (g 0, 6, .inl (fun i => nI (MN i))))]) rfl dX8_keep_28 (fun H locs G => ?_)
    refine lv_aload_n Z.1 Z.2.1 dX8_keep_29 rfl (lv_at hl 0 rfl) ?_
    refine zk_get (C := RX8) (T := TX8) (N := 48) (ci := 8) Z hK G hinX8 0 rfl rfl 45 (by decide) (List.mem_cons_of_mem _ wa8_29) rfl (v := .ref (b 45)) rfl dX8_keep_30 ?_
    refine lv_iload_n Z.1 Z.2.1 dX8_keep_33 rfl (lv_at hl 1 rfl) ?_
    refine lv_iconst (v := nI 0) Z.1 Z.2.1 dX8_keep_34 (by decide +kernel) ?_
    refine zk_iast Z hK G 2 rfl (k := d) (by omega) (by decide) (zs_up_n _ _ _) (ws' := [(b 100, .inr (8, [.ref (b 0), .ref (b 1), .ref (b 2), .ref (b 3), .int (m 4), .int (m 5), .int (m 6), .int (m 7), .ref (b 8), .int (m 9), .ref (b 10), .int (m 11), .int (m 12), .int (m 13), .int (m 14), .int (m 15), .int (m 16), .ref (b 17), .ref (b 18), .ref (b 19), .ref (b 20), .ref (b 21), .ref (b 22), .ref (b 23), .ref (b 24), .int (m 25), .int (m 26), .int (m 27), .int (m 28), .ref (b 29), .ref (b 30), .int (m 31), .int (m 32), .int (m 33), .int (m 34), .int (m 35), .ref (b 36), .ref (b 37), .int (nI zr), .ref (b 39), .ref (b 40), .int (m 41), .int (m 42), .int (m 43), .ref (b 44), .ref (b 45), .ref (b 46), .ref (b 47)])), (b 44, .inl (g 0, 6, .inl (upd SH d y))), (b 45, .inl (g 0, 6, .inl (fun i => nI (zs_up MN d 0 i))))]) rfl dX8_keep_35 (fun H locs G => ?_)
    refine lv_iconst (v := nI 1) Z.1 Z.2.1 dX8_keep_36 (by decide +kernel) ?_
    have hk9 : zm_keep zr (nI d) y = true := by unfold zm_keep; rw [c4_0, c17, Bool.or_true]; rfl
    exact zk_reti Z hR_ hlk hK hQ G () (by rw [if_pos hk9]; rfl) (by rw [if_pos hk9, if_pos hk9, zb_nat hd]) dX8_keep_37
  have c17 : (zb_w zr y) = false := zk_b0.mp c17
  refine lv_iconst (v := (-1)) Z.1 Z.2.1 dX8_keep_20 (by decide +kernel) ?_
  have hk9 : ¬ zm_keep zr (nI d) y = true := by unfold zm_keep; rw [c17, decide_eq_false c9]; simp
  exact zk_reti Z hR_ hlk hK hQ G () (by rw [if_neg hk9]) (by rw [if_neg hk9, if_neg hk9]) dX8_keep_21

abbrev rm_X8_row : Room := { frames := 2, cells := 0, slots := 0, locals := 45 }
theorem dvX8_row : zk_dv yX8_row RX8 3 := by decide +kernel
theorem gmX8_row_X8_isShelf : GoodIn wmX8_row (va_wsS RX8 118 yX8_isShelf wmX8_isShelf) := goodIn_app (wa8_w (List.forall_mem_cons.mpr ⟨wa8_62, List.forall_mem_cons.mpr ⟨wa8_63, List.forall_mem_cons.mpr ⟨wa8_43, fun _ h => absurd h List.not_mem_nil⟩⟩⟩)) (wa8_sub wa8_64)
theorem gmX8_row_X8_within : GoodIn wmX8_row (va_wsS RX8 97 yX8_within wmX8_within) := goodIn_app (wa8_w (List.forall_mem_cons.mpr ⟨wa8_41, List.forall_mem_cons.mpr ⟨wa8_42, List.forall_mem_cons.mpr ⟨wa8_43, fun _ h => absurd h List.not_mem_nil⟩⟩⟩)) (wa8_sub wa8_0)
set_option maxRecDepth 100000 in
set_option maxHeartbeats 1500000 in
theorem ct_X8_row (l : Launch) (D : va_G) (g : Nat → ClassId) (τ : Nat → Nat) (b : Nat → Nat) (m : Nat → Int32) (SH : Nat → Int32) (MN : Nat → Nat) (IT : Nat → Int64) (x : Int32) (y : Int32) (z : Int32)  : zk_MI l D g τ yX8_row wmX8_row rm_X8_row [.ref (b 100), .int x, .int y, .int z] [(b 100, .inr (8, [.ref (b 0), .ref (b 1), .ref (b 2), .ref (b 3), .int (m 4), .int (m 5), .int (m 6), .int (m 7), .ref (b 8), .int (m 9), .ref (b 10), .int (m 11), .int (m 12), .int (m 13), .int (m 14), .int (m 15), .int (m 16), .ref (b 17), .ref (b 18), .ref (b 19), .ref (b 20), .ref (b 21), .ref (b 22), .ref (b 23), .ref (b 24), .int (m 25), .int (m 26), .int (m 27), .int (m 28), .ref (b 29), .ref (b 30), .int (m 31), .int (m 32), .int (m 33), .int (m 34), .int (m 35), .ref (b 36), .ref (b 37), .int (m 38), .ref (b 39), .ref (b 40), .int (m 41), .int (m 42), .int (m 43), .ref (b 44), .ref (b 45), .ref (b 46), .ref (b 47)])), (b 44, .inl (g 0, 6, .inl SH)), (b 45, .inl (g 0, 6, .inl (fun i => nI (MN i)))), (b 46, .inl (g 1, 360, .inr (.inl IT)))] (fun (r : Int32) (_ : Unit) => r = zm_row x y z) (fun (_ : Unit) => [(b 100, .inr (8, [.ref (b 0), .ref (b 1), .ref (b 2), .ref (b 3), .int (m 4), .int (m 5), .int (m 6), .int (m 7), .ref (b 8), .int (m 9), .ref (b 10), .int (m 11), .int (m 12), .int (m 13), .int (m 14), .int (m 15), .int (m 16), .ref (b 17), .ref (b 18), .ref (b 19), .ref (b 20), .ref (b 21), .ref (b 22), .ref (b 23), .ref (b 24), .int (m 25), .int (m 26), .int (m 27), .int (m 28), .ref (b 29), .ref (b 30), .int (m 31), .int (m 32), .int (m 33), .int (m 34), .int (m 35), .ref (b 36), .ref (b 37), .int (m 38), .ref (b 39), .ref (b 40), .int (m 41), .int (m 42), .int (m 43), .ref (b 44), .ref (b 45), .ref (b 46), .ref (b 47)])), (b 44, .inl (g 0, 6, .inl (if (zm_rowok x y z && decide (0 ≤ z)) = true then upd SH (x.toInt.toNat) (nI 50 + y) else SH))), (b 45, .inl (g 0, 6, .inl (fun i => nI ((if (zm_rowok x y z && decide (0 ≤ z)) = true then zs_up MN (x.toInt.toNat) z.toInt.toNat else MN) i)))), (b 46, .inl (g 1, 360, .inr (.inl (if (zm_rowok x y z && decide (0 ≤ z)) = true then zm_wipe IT (x.toInt.toNat) (60 * x.toInt.toNat + 60) else IT))))]) := by
  refine zk_of (av := [.ref (b 100), .int x, .int y, .int z]) (W0 := [(b 100, .inr (8, [.ref (b 0), .ref (b 1), .ref (b 2), .ref (b 3), .int (m 4), .int (m 5), .int (m 6), .int (m 7), .ref (b 8), .int (m 9), .ref (b 10), .int (m 11), .int (m 12), .int (m 13), .int (m 14), .int (m 15), .int (m 16), .ref (b 17), .ref (b 18), .ref (b 19), .ref (b 20), .ref (b 21), .ref (b 22), .ref (b 23), .ref (b 24), .int (m 25), .int (m 26), .int (m 27), .int (m 28), .ref (b 29), .ref (b 30), .int (m 31), .int (m 32), .int (m 33), .int (m 34), .int (m 35), .ref (b 36), .ref (b 37), .int (m 38), .ref (b 39), .ref (b 40), .int (m 41), .int (m 42), .int (m 43), .ref (b 44), .ref (b 45), .ref (b 46), .ref (b 47)])), (b 44, .inl (g 0, 6, .inl SH)), (b 45, .inl (g 0, 6, .inl (fun i => nI (MN i)))), (b 46, .inl (g 1, 360, .inr (.inl IT)))]) (y := yX8_row) (wd := wmX8_row) (Qc := fun A => va_Qi (fun (r : Int32) (_ : Unit) => r = zm_row x y z) (zk_B D g A (fun (_ : Unit) => [(b 100, .inr (8, [.ref (b 0), .ref (b 1), .ref (b 2), .ref (b 3), .int (m 4), .int (m 5), .int (m 6), .int (m 7), .ref (b 8), .int (m 9), .ref (b 10), .int (m 11), .int (m 12), .int (m 13), .int (m 14), .int (m 15), .int (m 16), .ref (b 17), .ref (b 18), .ref (b 19), .ref (b 20), .ref (b 21), .ref (b 22), .ref (b 23), .ref (b 24), .int (m 25), .int (m 26), .int (m 27), .int (m 28), .ref (b 29), .ref (b 30), .int (m 31), .int (m 32), .int (m 33), .int (m 34), .int (m 35), .ref (b 36), .ref (b 37), .int (m 38), .ref (b 39), .ref (b 40), .int (m 41), .int (m 42), .int (m 43), .ref (b 44), .ref (b 45), .ref (b 46), .ref (b 47)])), (b 44, .inl (g 0, 6, .inl (if (zm_rowok x y z && decide (0 ≤ z)) = true then upd SH (x.toInt.toNat) (nI 50 + y) else SH))), (b 45, .inl (g 0, 6, .inl (fun i => nI ((if (zm_rowok x y z && decide (0 ≤ z)) = true then zs_up MN (x.toInt.toNat) z.toInt.toNat else MN) i)))), (b 46, .inl (g 1, 360, .inr (.inl (if (zm_rowok x y z && decide (0 ≤ z)) = true then zm_wipe IT (x.toInt.toNat) (60 * x.toInt.toNat + 60) else IT))))])) A) (cc := cX8_row) (maxL := 5) (ret := (some .int)) (own := RX8) (by decide) rfl rfl (Nat.le_of_ble_eq_true rfl) ?_
  intro pP eE sS mM args below meth cC aA ls qQ Z hR_ hlk hnm hK hT hA hQ G hl
  have hinX8 : ∀ w ∈ u_ws RX8 TX8 48, w ∈ wmX8_row := wa8_in
  refine lv_iload_n Z.1 Z.2.1 dX8_row_0 rfl (lv_at hl 1 rfl) ?_
  refine zk_ci (WF := fun (_ : Unit) => [(b 100, .inr (8, [.ref (b 0), .ref (b 1), .ref (b 2), .ref (b 3), .int (m 4), .int (m 5), .int (m 6), .int (m 7), .ref (b 8), .int (m 9), .ref (b 10), .int (m 11), .int (m 12), .int (m 13), .int (m 14), .int (m 15), .int (m 16), .ref (b 17), .ref (b 18), .ref (b 19), .ref (b 20), .ref (b 21), .ref (b 22), .ref (b 23), .ref (b 24), .int (m 25), .int (m 26), .int (m 27), .int (m 28), .ref (b 29), .ref (b 30), .int (m 31), .int (m 32), .int (m 33), .int (m 34), .int (m 35), .ref (b 36), .ref (b 37), .int (m 38), .ref (b 39), .ref (b 40), .int (m 41), .int (m 42), .int (m 43), .ref (b 44), .ref (b 45), .ref (b 46), .ref (b 47)])), (b 44, .inl (g 0, 6, .inl SH)), (b 45, .inl (g 0, 6, .inl (fun i => nI (MN i)))), (b 46, .inl (g 1, 360, .inr (.inl IT)))]) (wr := [(b 100, .inr (8, [.ref (b 0), .ref (b 1), .ref (b 2), .ref (b 3), .int (m 4), .int (m 5), .int (m 6), .int (m 7), .ref (b 8), .int (m 9), .ref (b 10), .int (m 11), .int (m 12), .int (m 13), .int (m 14), .int (m 15), .int (m 16), .ref (b 17), .ref (b 18), .ref (b 19), .ref (b 20), .ref (b 21), .ref (b 22), .ref (b 23), .ref (b 24), .int (m 25), .int (m 26), .int (m 27), .int (m 28), .ref (b 29), .ref (b 30), .int (m 31), .int (m 32), .int (m 33), .int (m 34), .int (m 35), .ref (b 36), .ref (b 37), .int (m 38), .ref (b 39), .ref (b 40), .int (m 41), .int (m 42), .int (m 43), .ref (b 44), .ref (b 45), .ref (b 46), .ref (b 47)])), (b 44, .inl (g 0, 6, .inl SH)), (b 45, .inl (g 0, 6, .inl (fun i => nI (MN i)))), (b 46, .inl (g 1, 360, .inr (.inl IT)))]) ⟨rfl, rfl⟩ (zk_rs (As := [.int x]) (rest := []) Z ((ct_X8_isShelf l D g τ x ) sS.heap.size) hK hT hA G [] rfl (by decide) gmX8_row_X8_isShelf rfl dvX8_isShelf ⟨by decide, by decide⟩ rfl hl.1 rfl (Nat.le_of_ble_eq_true rfl) dX8_row_1 ⟨Nat.zero_le _, Nat.zero_le _⟩) hA G [] [0, 1, 2, 3] [0, 1, 2, 3] rfl rfl (by decide) (by decide) (by decide) (fun _ => rfl) (fun r_1 _ H locs w_1 G => ?_)
  obtain rfl : r_1 = zk_b (zb_w 6 x) := w_1
  refine lv_if_eq (tgt := 25) Z.1 Z.2.1 dX8_row_4 (by decide) (fun c4 => ?_) (fun c4 => ?_)
  · have c4 : (zb_w 6 x) = false := zk_b0.mp c4
    refine lv_iconst (v := (-1)) Z.1 Z.2.1 dX8_row_25 (by decide +kernel) ?_
    have hk8 : ¬ zm_rowok x y z = true := by unfold zm_rowok; rw [c4]; simp
    have hk9 : ¬ (zm_rowok x y z && decide (0 ≤ z)) = true := fun q9 => hk8 (Bool.and_eq_true _ _ ▸ q9).1
    exact zk_reti Z hR_ hlk hK hQ G () (by unfold zm_row; rw [if_neg hk8]) (by rw [if_neg hk9, if_neg hk9, if_neg hk9]) dX8_row_26
  have c4 : (zb_w 6 x) = true := zk_b1.mp c4
  have c4_0 := c4
  obtain ⟨d, hd, rfl, hd2⟩ := zb_w_ex c4
  refine lv_iload_n Z.1 Z.2.1 dX8_row_7 rfl (lv_at hl 2 rfl) ?_
  refine lv_i2l (v := y.toInt64) Z.1 Z.2.1 dX8_row_8 rfl ?_
  refine lv_lconst (v := lN 0) Z.1 Z.2.1 dX8_row_9 (by decide +kernel) ?_
  refine lv_ldc2 (v := lN 4) Z.1 Z.2.1 Z.2.2.2.1 (Z.2.2.2.2 _ (List.mem_cons_of_mem _ wa8_79)) dX8_row_10 ?_
  refine zk_ci (WF := fun (_ : Unit) => [(b 100, .inr (8, [.ref (b 0), .ref (b 1), .ref (b 2), .ref (b 3), .int (m 4), .int (m 5), .int (m 6), .int (m 7), .ref (b 8), .int (m 9), .ref (b 10), .int (m 11), .int (m 12), .int (m 13), .int (m 14), .int (m 15), .int (m 16), .ref (b 17), .ref (b 18), .ref (b 19), .ref (b 20), .ref (b 21), .ref (b 22), .ref (b 23), .ref (b 24), .int (m 25), .int (m 26), .int (m 27), .int (m 28), .ref (b 29), .ref (b 30), .int (m 31), .int (m 32), .int (m 33), .int (m 34), .int (m 35), .ref (b 36), .ref (b 37), .int (m 38), .ref (b 39), .ref (b 40), .int (m 41), .int (m 42), .int (m 43), .ref (b 44), .ref (b 45), .ref (b 46), .ref (b 47)])), (b 44, .inl (g 0, 6, .inl SH)), (b 45, .inl (g 0, 6, .inl (fun i => nI (MN i)))), (b 46, .inl (g 1, 360, .inr (.inl IT)))]) (wr := [(b 100, .inr (8, [.ref (b 0), .ref (b 1), .ref (b 2), .ref (b 3), .int (m 4), .int (m 5), .int (m 6), .int (m 7), .ref (b 8), .int (m 9), .ref (b 10), .int (m 11), .int (m 12), .int (m 13), .int (m 14), .int (m 15), .int (m 16), .ref (b 17), .ref (b 18), .ref (b 19), .ref (b 20), .ref (b 21), .ref (b 22), .ref (b 23), .ref (b 24), .int (m 25), .int (m 26), .int (m 27), .int (m 28), .ref (b 29), .ref (b 30), .int (m 31), .int (m 32), .int (m 33), .int (m 34), .int (m 35), .ref (b 36), .ref (b 37), .int (m 38), .ref (b 39), .ref (b 40), .int (m 41), .int (m 42), .int (m 43), .ref (b 44), .ref (b 45), .ref (b 46), .ref (b 47)])), (b 44, .inl (g 0, 6, .inl SH)), (b 45, .inl (g 0, 6, .inl (fun i => nI (MN i)))), (b 46, .inl (g 1, 360, .inr (.inl IT)))]) ⟨rfl, rfl⟩ (zk_rs (As := [.long y.toInt64, .long (lN 0), .long (lN 4)]) (rest := []) Z ((ct_X8_within l D g τ y.toInt64 (lN 0) (lN 4) ) H.size) hK hT hA G [] rfl (by decide) gmX8_row_X8_within rfl dvX8_within ⟨by decide, by decide⟩ rfl hl.1 rfl (Nat.le_of_ble_eq_true rfl) dX8_row_13 ⟨Nat.zero_le _, Nat.zero_le _⟩) hA G [] [0, 1, 2, 3] [0, 1, 2, 3] rfl rfl (by decide) (by decide) (by decide) (fun _ => rfl) (fun r_13 _ H locs w_13 G => ?_)
  obtain rfl : r_13 = zk_b (zm_in y.toInt64 (lN 0) (lN 4)) := w_13
  refine lv_if_eq (tgt := 25) Z.1 Z.2.1 dX8_row_16 (by decide) (fun c16 => ?_) (fun c16 => ?_)
  · have c16 : (zm_in y.toInt64 (lN 0) (lN 4)) = false := zk_b0.mp c16
    have c16_0 : zb_w 5 y = false := by rw [← zm_in_n (m := 4) (by decide)]; exact c16
    refine lv_iconst (v := (-1)) Z.1 Z.2.1 dX8_row_25 (by decide +kernel) ?_
    have hk8 : ¬ zm_rowok (nI d) y z = true := by unfold zm_rowok; rw [c16_0]; simp
    have hk9 : ¬ (zm_rowok (nI d) y z && decide (0 ≤ z)) = true := fun q9 => hk8 (Bool.and_eq_true _ _ ▸ q9).1
    exact zk_reti Z hR_ hlk hK hQ G () (by unfold zm_row; rw [if_neg hk8]) (by rw [if_neg hk9, if_neg hk9, if_neg hk9]) dX8_row_26
  have c16 : (zm_in y.toInt64 (lN 0) (lN 4)) = true := zk_b1.mp c16
  have c16_0 : zb_w 5 y = true := by rw [← zm_in_n (m := 4) (by decide)]; exact c16
  refine lv_iload_n Z.1 Z.2.1 dX8_row_19 rfl (lv_at hl 3 rfl) ?_
  refine lv_bipush (v := nI 60) Z.1 Z.2.1 dX8_row_20 (by decide +kernel) ?_
  refine lv_icmp_le (tgt := 27) Z.1 Z.2.1 dX8_row_22 (by decide) (fun c22 => ?_) (fun c22 => ?_)
  · have c22 : z ≤ 60 := c22
    refine lv_iload_n Z.1 Z.2.1 dX8_row_27 rfl (lv_at hl 3 rfl) ?_
    refine lv_if_ge (tgt := 34) Z.1 Z.2.1 dX8_row_28 (by decide) (fun c28 => ?_) (fun c28 => ?_)
    · have c28 : 0 ≤ z := c28
      have c28n : ¬ z < 0 := Int32.not_lt.mpr c28
      obtain ⟨u, hu, rfl⟩ := nI_of c28n
      have hk8 : zm_rowok (nI d) y (nI u) = true := by unfold zm_rowok; rw [c4_0, c16_0, decide_eq_true c22]; rfl
      refine lv_aload_n Z.1 Z.2.1 dX8_row_34 rfl (lv_at hl 0 rfl) ?_
      refine zk_get (C := RX8) (T := TX8) (N := 48) (ci := 8) Z hK G hinX8 0 rfl rfl 44 (by decide) (List.mem_cons_of_mem _ wa8_28) rfl (v := .ref (b 44)) rfl dX8_row_35 ?_
      refine lv_iload_n Z.1 Z.2.1 dX8_row_38 rfl (lv_at hl 1 rfl) ?_
      refine lv_bipush (v := nI 50) Z.1 Z.2.1 dX8_row_39 (by decide +kernel) ?_
      refine lv_iload_n Z.1 Z.2.1 dX8_row_41 rfl (lv_at hl 2 rfl) ?_
      refine zk_iadd Z dX8_row_42 (z := (nI 50) + y) rfl ?_
      refine zk_iast Z hK G 1 rfl (k := d) (by omega) (by decide) rfl (ws' := [(b 100, .inr (8, [.ref (b 0), .ref (b 1), .ref (b 2), .ref (b 3), .int (m 4), .int (m 5), .int (m 6), .int (m 7), .ref (b 8), .int (m 9), .ref (b 10), .int (m 11), .int (m 12), .int (m 13), .int (m 14), .int (m 15), .int (m 16), .ref (b 17), .ref (b 18), .ref (b 19), .ref (b 20), .ref (b 21), .ref (b 22), .ref (b 23), .ref (b 24), .int (m 25), .int (m 26), .int (m 27), .int (m 28), .ref (b 29), .ref (b 30), .int (m 31), .int (m 32), .int (m 33), .int (m 34), .int (m 35), .ref (b 36), .ref (b 37), .int (m 38), .ref (b 39), .ref (b 40), .int (m 41), .int (m 42), .int (m 43), .ref (b 44), .ref (b 45), .ref (b 46), .ref (b 47)])), (b 44, .inl (g 0, 6, .inl (upd SH d (nI 50 + y)))), (b 45, .inl (g 0, 6, .inl (fun i => nI (MN i)))), (b 46, .inl (g 1, 360, .inr (.inl IT)))]) rfl dX8_row_43 (fun H locs G => ?_)
      refine lv_aload_n Z.1 Z.2.1 dX8_row_44 rfl (lv_at hl 0 rfl) ?_
      refine zk_get (C := RX8) (T := TX8) (N := 48) (ci := 8) Z hK G hinX8 0 rfl rfl 45 (by decide) (List.mem_cons_of_mem _ wa8_29) rfl (v := .ref (b 45)) rfl dX8_row_45 ?_
      refine lv_iload_n Z.1 Z.2.1 dX8_row_48 rfl (lv_at hl 1 rfl) ?_
      refine lv_iload_n Z.1 Z.2.1 dX8_row_49 rfl (lv_at hl 3 rfl) ?_
      refine zk_iast Z hK G 2 rfl (k := d) (by omega) (by decide) (zs_up_n _ _ _) (ws' := [(b 100, .inr (8, [.ref (b 0), .ref (b 1), .ref (b 2), .ref (b 3), .int (m 4), .int (m 5), .int (m 6), .int (m 7), .ref (b 8), .int (m 9), .ref (b 10), .int (m 11), .int (m 12), .int (m 13), .int (m 14), .int (m 15), .int (m 16), .ref (b 17), .ref (b 18), .ref (b 19), .ref (b 20), .ref (b 21), .ref (b 22), .ref (b 23), .ref (b 24), .int (m 25), .int (m 26), .int (m 27), .int (m 28), .ref (b 29), .ref (b 30), .int (m 31), .int (m 32), .int (m 33), .int (m 34), .int (m 35), .ref (b 36), .ref (b 37), .int (m 38), .ref (b 39), .ref (b 40), .int (m 41), .int (m 42), .int (m 43), .ref (b 44), .ref (b 45), .ref (b 46), .ref (b 47)])), (b 44, .inl (g 0, 6, .inl (upd SH d (nI 50 + y)))), (b 45, .inl (g 0, 6, .inl (fun i => nI (zs_up MN d u i)))), (b 46, .inl (g 1, 360, .inr (.inl IT)))]) rfl dX8_row_50 (fun H locs G => ?_)
      refine lv_bipush (v := nI 60) Z.1 Z.2.1 dX8_row_51 (by decide +kernel) ?_
      refine lv_iload_n Z.1 Z.2.1 dX8_row_53 rfl (lv_at hl 1 rfl) ?_
      refine zk_imul Z dX8_row_54 (z := nI (60 * d)) (pk_mul _ _) ?_
      have G : zk_G D aA [(b 100, .inr (8, [.ref (b 0), .ref (b 1), .ref (b 2), .ref (b 3), .int (m 4), .int (m 5), .int (m 6), .int (m 7), .ref (b 8), .int (m 9), .ref (b 10), .int (m 11), .int (m 12), .int (m 13), .int (m 14), .int (m 15), .int (m 16), .ref (b 17), .ref (b 18), .ref (b 19), .ref (b 20), .ref (b 21), .ref (b 22), .ref (b 23), .ref (b 24), .int (m 25), .int (m 26), .int (m 27), .int (m 28), .ref (b 29), .ref (b 30), .int (m 31), .int (m 32), .int (m 33), .int (m 34), .int (m 35), .ref (b 36), .ref (b 37), .int (m 38), .ref (b 39), .ref (b 40), .int (m 41), .int (m 42), .int (m 43), .ref (b 44), .ref (b 45), .ref (b 46), .ref (b 47)])), (b 44, .inl (g 0, 6, .inl (upd SH d (nI 50 + y)))), (b 45, .inl (g 0, 6, .inl (fun i => nI (zs_up MN d u i)))), (b 46, .inl (g 1, 360, .inr (.inl (zm_wipe IT d (60 * d)))))] sS H locs := (by rw [zm_wipe_0]; exact G)
      refine lv_istore (lv' := [(4, .int (nI (60 * d))), (0, .ref (b 100)), (1, .int (nI d)), (2, .int y), (3, .int (nI u))]) Z.1 Z.2.1 dX8_row_55 hl (by decide) rfl (fun ls hl => ?_)
      have L57 : ∀ (nN : Nat) (k : Nat), 60 * d + 60 - k < nN → (60 * d ≤ k) → (k ≤ 60 * d + 60) → ∀ (H : Heap) (locs : List Loc) (ls : Array Slot), zk_G D aA [(b 100, .inr (8, [.ref (b 0), .ref (b 1), .ref (b 2), .ref (b 3), .int (m 4), .int (m 5), .int (m 6), .int (m 7), .ref (b 8), .int (m 9), .ref (b 10), .int (m 11), .int (m 12), .int (m 13), .int (m 14), .int (m 15), .int (m 16), .ref (b 17), .ref (b 18), .ref (b 19), .ref (b 20), .ref (b 21), .ref (b 22), .ref (b 23), .ref (b 24), .int (m 25), .int (m 26), .int (m 27), .int (m 28), .ref (b 29), .ref (b 30), .int (m 31), .int (m 32), .int (m 33), .int (m 34), .int (m 35), .ref (b 36), .ref (b 37), .int (m 38), .ref (b 39), .ref (b 40), .int (m 41), .int (m 42), .int (m 43), .ref (b 44), .ref (b 45), .ref (b 46), .ref (b 47)])), (b 44, .inl (g 0, 6, .inl (upd SH d (nI 50 + y)))), (b 45, .inl (g 0, 6, .inl (fun i => nI (zs_up MN d u i)))), (b 46, .inl (g 1, 360, .inr (.inl (zm_wipe IT d k))))] sS H locs → lv_has ls 5 [(1, .int (nI d)), (0, .ref (b 100)), (4, .int (nI k))] → W pP l eE rm_X8_row sS mM args below meth cC H locs 0 0 qQ (F0 mM 57 ls []) := by
        intro nN
        induction nN with
        | zero => intros; omega
        | succ nN ih57 =>
          intro k hμ h1 h2 H locs ls G hl
          refine lv_iload Z.1 Z.2.1 dX8_row_57 (lv_at hl 2 rfl) ?_
          refine lv_bipush (v := nI 60) Z.1 Z.2.1 dX8_row_59 (by decide +kernel) ?_
          refine lv_iload_n Z.1 Z.2.1 dX8_row_61 rfl (lv_at hl 0 rfl) ?_
          refine zk_imul Z dX8_row_62 (z := nI (60 * d)) (pk_mul _ _) ?_
          refine lv_bipush (v := nI 60) Z.1 Z.2.1 dX8_row_63 (by decide +kernel) ?_
          refine zk_iadd Z dX8_row_65 (z := nI (60 * d + 60)) (nI_add _ _) ?_
          refine lv_icmp_ge (tgt := 83) Z.1 Z.2.1 dX8_row_66 (by decide) (fun c66 => ?_) (fun c66 => ?_)
          · have c66 : 60 * d + 60 ≤ k := zk_le (by omega) (by omega) c66
            refine lv_iconst (v := nI 1) Z.1 Z.2.1 dX8_row_83 (by decide +kernel) ?_
            have ek9 : k = 60 * d + 60 := by omega
            subst ek9
            have hk9 : (zm_rowok (nI d) y (nI u) && decide (0 ≤ nI u)) = true := by rw [hk8, decide_eq_true c28]; rfl
            exact zk_reti Z hR_ hlk hK hQ G () (by unfold zm_row; rw [if_pos hk8, if_pos c28]; rfl) (by rw [if_pos hk9, if_pos hk9, if_pos hk9, zb_nat hd, zb_nat hu]) dX8_row_84
          have c66 : k < 60 * d + 60 := zk_nle (by omega) (by omega) c66
          refine lv_aload_n Z.1 Z.2.1 dX8_row_69 rfl (lv_at hl 1 rfl) ?_
          refine zk_get (C := RX8) (T := TX8) (N := 48) (ci := 8) Z hK G hinX8 0 rfl rfl 46 (by decide) (List.mem_cons_of_mem _ wa8_31) rfl (v := .ref (b 46)) rfl dX8_row_70 ?_
          refine lv_iload Z.1 Z.2.1 dX8_row_73 (lv_at hl 2 rfl) ?_
          refine lv_lconst (v := lN 0) Z.1 Z.2.1 dX8_row_75 (by decide +kernel) ?_
          refine zk_last Z hK G 3 rfl (k := k) (by omega) (by decide) (zm_wipe_s IT h1) (ws' := [(b 100, .inr (8, [.ref (b 0), .ref (b 1), .ref (b 2), .ref (b 3), .int (m 4), .int (m 5), .int (m 6), .int (m 7), .ref (b 8), .int (m 9), .ref (b 10), .int (m 11), .int (m 12), .int (m 13), .int (m 14), .int (m 15), .int (m 16), .ref (b 17), .ref (b 18), .ref (b 19), .ref (b 20), .ref (b 21), .ref (b 22), .ref (b 23), .ref (b 24), .int (m 25), .int (m 26), .int (m 27), .int (m 28), .ref (b 29), .ref (b 30), .int (m 31), .int (m 32), .int (m 33), .int (m 34), .int (m 35), .ref (b 36), .ref (b 37), .int (m 38), .ref (b 39), .ref (b 40), .int (m 41), .int (m 42), .int (m 43), .ref (b 44), .ref (b 45), .ref (b 46), .ref (b 47)])), (b 44, .inl (g 0, 6, .inl (upd SH d (nI 50 + y)))), (b 45, .inl (g 0, 6, .inl (fun i => nI (zs_up MN d u i)))), (b 46, .inl (g 1, 360, .inr (.inl (zm_wipe IT d (k + 1)))))]) rfl dX8_row_76 (fun H locs G => ?_)
          refine lv_iinc (v := nI (k + 1)) (lv' := [(4, .int (nI (k + 1))), (1, .int (nI d)), (0, .ref (b 100))]) Z.1 Z.2.1 dX8_row_77 hl (k := 2) rfl (zk_inc k 1) (by decide) rfl (fun ls hl => ?_)
          refine lv_goto (tgt := 57) Z.1 Z.2.1 dX8_row_80 (by decide) ?_
          exact ih57 (k + 1) (by omega) (by omega) (by omega) _ _ _ G (lv_sub hl [1, 2, 0] rfl)
      exact L57 _ (60 * d) (Nat.lt_succ_self _) (by omega) (by omega) _ _ _ G (lv_sub hl [2, 1, 0] rfl)
    have c28 : ¬ 0 ≤ z := c28
    refine lv_bipush (v := (-14)) Z.1 Z.2.1 dX8_row_31 (by decide +kernel) ?_
    have hk8 : zm_rowok (nI d) y z = true := by unfold zm_rowok; rw [c4_0, c16_0, decide_eq_true c22]; rfl
    have hk9 : ¬ (zm_rowok (nI d) y z && decide (0 ≤ z)) = true := by rw [decide_eq_false c28]; simp
    exact zk_reti Z hR_ hlk hK hQ G () (by unfold zm_row; rw [if_pos hk8, if_neg c28]) (by rw [if_neg hk9, if_neg hk9, if_neg hk9]) dX8_row_33
  have c22 : ¬ z ≤ 60 := c22
  refine lv_iconst (v := (-1)) Z.1 Z.2.1 dX8_row_25 (by decide +kernel) ?_
  have hk8 : ¬ zm_rowok (nI d) y z = true := by unfold zm_rowok; rw [decide_eq_false c22]; simp
  have hk9 : ¬ (zm_rowok (nI d) y z && decide (0 ≤ z)) = true := fun q9 => hk8 (Bool.and_eq_true _ _ ▸ q9).1
  exact zk_reti Z hR_ hlk hK hQ G () (by unfold zm_row; rw [if_neg hk8]) (by rw [if_neg hk9, if_neg hk9, if_neg hk9]) dX8_row_26

abbrev rm_X8_refusal : Room := { frames := 2, cells := 0, slots := 0, locals := 45 }
theorem dvX8_refusal : zk_dv yX8_refusal RX8 2 := by decide +kernel
theorem gmX8_refusal_X8_isShelf : GoodIn wmX8_refusal (va_wsS RX8 118 yX8_isShelf wmX8_isShelf) := goodIn_app (wa8_w (List.forall_mem_cons.mpr ⟨wa8_62, List.forall_mem_cons.mpr ⟨wa8_63, List.forall_mem_cons.mpr ⟨wa8_43, fun _ h => absurd h List.not_mem_nil⟩⟩⟩)) (wa8_sub wa8_64)
set_option maxRecDepth 100000 in
set_option maxHeartbeats 1500000 in
theorem ct_X8_refusal (l : Launch) (D : va_G) (g : Nat → ClassId) (τ : Nat → Nat) (b : Nat → Nat) (m : Nat → Int32) (SH : Nat → Int32) (MN : Nat → Nat) (x : Int32) (y : Int32) (hmn : ∀ i, MN i < 2 ^ 30) : zk_MI l D g τ yX8_refusal wmX8_refusal rm_X8_refusal [.ref (b 100), .int x, .int y] [(b 100, .inr (8, [.ref (b 0), .ref (b 1), .ref (b 2), .ref (b 3), .int (m 4), .int (m 5), .int (m 6), .int (m 7), .ref (b 8), .int (m 9), .ref (b 10), .int (m 11), .int (m 12), .int (m 13), .int (m 14), .int (m 15), .int (m 16), .ref (b 17), .ref (b 18), .ref (b 19), .ref (b 20), .ref (b 21), .ref (b 22), .ref (b 23), .ref (b 24), .int (m 25), .int (m 26), .int (m 27), .int (m 28), .ref (b 29), .ref (b 30), .int (m 31), .int (m 32), .int (m 33), .int (m 34), .int (m 35), .ref (b 36), .ref (b 37), .int (m 38), .ref (b 39), .ref (b 40), .int (m 41), .int (m 42), .int (m 43), .ref (b 44), .ref (b 45), .ref (b 46), .ref (b 47)])), (b 44, .inl (g 0, 6, .inl SH)), (b 45, .inl (g 0, 6, .inl (fun i => nI (MN i))))] (fun (r : Int32) (_ : Unit) => r = zm_re SH MN x y) (fun (_ : Unit) => [(b 100, .inr (8, [.ref (b 0), .ref (b 1), .ref (b 2), .ref (b 3), .int (m 4), .int (m 5), .int (m 6), .int (m 7), .ref (b 8), .int (m 9), .ref (b 10), .int (m 11), .int (m 12), .int (m 13), .int (m 14), .int (m 15), .int (m 16), .ref (b 17), .ref (b 18), .ref (b 19), .ref (b 20), .ref (b 21), .ref (b 22), .ref (b 23), .ref (b 24), .int (m 25), .int (m 26), .int (m 27), .int (m 28), .ref (b 29), .ref (b 30), .int (m 31), .int (m 32), .int (m 33), .int (m 34), .int (m 35), .ref (b 36), .ref (b 37), .int (m 38), .ref (b 39), .ref (b 40), .int (m 41), .int (m 42), .int (m 43), .ref (b 44), .ref (b 45), .ref (b 46), .ref (b 47)])), (b 44, .inl (g 0, 6, .inl SH)), (b 45, .inl (g 0, 6, .inl (fun i => nI (MN i))))]) := by
  refine zk_of (av := [.ref (b 100), .int x, .int y]) (W0 := [(b 100, .inr (8, [.ref (b 0), .ref (b 1), .ref (b 2), .ref (b 3), .int (m 4), .int (m 5), .int (m 6), .int (m 7), .ref (b 8), .int (m 9), .ref (b 10), .int (m 11), .int (m 12), .int (m 13), .int (m 14), .int (m 15), .int (m 16), .ref (b 17), .ref (b 18), .ref (b 19), .ref (b 20), .ref (b 21), .ref (b 22), .ref (b 23), .ref (b 24), .int (m 25), .int (m 26), .int (m 27), .int (m 28), .ref (b 29), .ref (b 30), .int (m 31), .int (m 32), .int (m 33), .int (m 34), .int (m 35), .ref (b 36), .ref (b 37), .int (m 38), .ref (b 39), .ref (b 40), .int (m 41), .int (m 42), .int (m 43), .ref (b 44), .ref (b 45), .ref (b 46), .ref (b 47)])), (b 44, .inl (g 0, 6, .inl SH)), (b 45, .inl (g 0, 6, .inl (fun i => nI (MN i))))]) (y := yX8_refusal) (wd := wmX8_refusal) (Qc := fun A => va_Qi (fun (r : Int32) (_ : Unit) => r = zm_re SH MN x y) (zk_B D g A (fun (_ : Unit) => [(b 100, .inr (8, [.ref (b 0), .ref (b 1), .ref (b 2), .ref (b 3), .int (m 4), .int (m 5), .int (m 6), .int (m 7), .ref (b 8), .int (m 9), .ref (b 10), .int (m 11), .int (m 12), .int (m 13), .int (m 14), .int (m 15), .int (m 16), .ref (b 17), .ref (b 18), .ref (b 19), .ref (b 20), .ref (b 21), .ref (b 22), .ref (b 23), .ref (b 24), .int (m 25), .int (m 26), .int (m 27), .int (m 28), .ref (b 29), .ref (b 30), .int (m 31), .int (m 32), .int (m 33), .int (m 34), .int (m 35), .ref (b 36), .ref (b 37), .int (m 38), .ref (b 39), .ref (b 40), .int (m 41), .int (m 42), .int (m 43), .ref (b 44), .ref (b 45), .ref (b 46), .ref (b 47)])), (b 44, .inl (g 0, 6, .inl SH)), (b 45, .inl (g 0, 6, .inl (fun i => nI (MN i))))])) A) (cc := cX8_refusal) (maxL := 3) (ret := (some .int)) (own := RX8) (by decide) rfl rfl (Nat.le_of_ble_eq_true rfl) ?_
  intro pP eE sS mM args below meth cC aA ls qQ Z hR_ hlk hnm hK hT hA hQ G hl
  have hinX8 : ∀ w ∈ u_ws RX8 TX8 48, w ∈ wmX8_refusal := wa8_in
  refine lv_iload_n Z.1 Z.2.1 dX8_refusal_0 rfl (lv_at hl 1 rfl) ?_
  refine zk_ci (WF := fun (_ : Unit) => [(b 100, .inr (8, [.ref (b 0), .ref (b 1), .ref (b 2), .ref (b 3), .int (m 4), .int (m 5), .int (m 6), .int (m 7), .ref (b 8), .int (m 9), .ref (b 10), .int (m 11), .int (m 12), .int (m 13), .int (m 14), .int (m 15), .int (m 16), .ref (b 17), .ref (b 18), .ref (b 19), .ref (b 20), .ref (b 21), .ref (b 22), .ref (b 23), .ref (b 24), .int (m 25), .int (m 26), .int (m 27), .int (m 28), .ref (b 29), .ref (b 30), .int (m 31), .int (m 32), .int (m 33), .int (m 34), .int (m 35), .ref (b 36), .ref (b 37), .int (m 38), .ref (b 39), .ref (b 40), .int (m 41), .int (m 42), .int (m 43), .ref (b 44), .ref (b 45), .ref (b 46), .ref (b 47)])), (b 44, .inl (g 0, 6, .inl SH)), (b 45, .inl (g 0, 6, .inl (fun i => nI (MN i))))]) (wr := [(b 100, .inr (8, [.ref (b 0), .ref (b 1), .ref (b 2), .ref (b 3), .int (m 4), .int (m 5), .int (m 6), .int (m 7), .ref (b 8), .int (m 9), .ref (b 10), .int (m 11), .int (m 12), .int (m 13), .int (m 14), .int (m 15), .int (m 16), .ref (b 17), .ref (b 18), .ref (b 19), .ref (b 20), .ref (b 21), .ref (b 22), .ref (b 23), .ref (b 24), .int (m 25), .int (m 26), .int (m 27), .int (m 28), .ref (b 29), .ref (b 30), .int (m 31), .int (m 32), .int (m 33), .int (m 34), .int (m 35), .ref (b 36), .ref (b 37), .int (m 38), .ref (b 39), .ref (b 40), .int (m 41), .int (m 42), .int (m 43), .ref (b 44), .ref (b 45), .ref (b 46), .ref (b 47)])), (b 44, .inl (g 0, 6, .inl SH)), (b 45, .inl (g 0, 6, .inl (fun i => nI (MN i))))]) ⟨rfl, rfl⟩ (zk_rs (As := [.int x]) (rest := []) Z ((ct_X8_isShelf l D g τ x ) sS.heap.size) hK hT hA G [] rfl (by decide) gmX8_refusal_X8_isShelf rfl dvX8_isShelf ⟨by decide, by decide⟩ rfl hl.1 rfl (Nat.le_of_ble_eq_true rfl) dX8_refusal_1 ⟨Nat.zero_le _, Nat.zero_le _⟩) hA G [] [0, 1, 2] [0, 1, 2] rfl rfl (by decide) (by decide) (by decide) (fun _ => rfl) (fun r_1 _ H locs w_1 G => ?_)
  obtain rfl : r_1 = zk_b (zb_w 6 x) := w_1
  refine lv_if_ne (tgt := 9) Z.1 Z.2.1 dX8_refusal_4 (by decide) (fun c4 => ?_) (fun c4 => ?_)
  · have c4 : (zb_w 6 x) = true := zk_b1.mp c4
    have c4_0 := c4
    obtain ⟨d, hd, rfl, hd2⟩ := zb_w_ex c4
    refine lv_aload_n Z.1 Z.2.1 dX8_refusal_9 rfl (lv_at hl 0 rfl) ?_
    refine zk_get (C := RX8) (T := TX8) (N := 48) (ci := 8) Z hK G hinX8 0 rfl rfl 44 (by decide) (List.mem_cons_of_mem _ wa8_28) rfl (v := .ref (b 44)) rfl dX8_refusal_10 ?_
    refine lv_iload_n Z.1 Z.2.1 dX8_refusal_13 rfl (lv_at hl 1 rfl) ?_
    refine zk_iald Z hK G 1 rfl (k := d) (by omega) (by decide) (v := SH d) rfl dX8_refusal_14 ?_
    refine lv_if_ge (tgt := 21) Z.1 Z.2.1 dX8_refusal_15 (by decide) (fun c15 => ?_) (fun c15 => ?_)
    · have c15 : 0 ≤ SH d := c15
      have c15n : ¬ SH d < 0 := Int32.not_lt.mpr c15
      refine lv_aload_n Z.1 Z.2.1 dX8_refusal_21 rfl (lv_at hl 0 rfl) ?_
      refine zk_get (C := RX8) (T := TX8) (N := 48) (ci := 8) Z hK G hinX8 0 rfl rfl 44 (by decide) (List.mem_cons_of_mem _ wa8_28) rfl (v := .ref (b 44)) rfl dX8_refusal_22 ?_
      refine lv_iload_n Z.1 Z.2.1 dX8_refusal_25 rfl (lv_at hl 1 rfl) ?_
      refine zk_iald Z hK G 1 rfl (k := d) (by omega) (by decide) (v := SH d) rfl dX8_refusal_26 ?_
      refine lv_bipush (v := nI 50) Z.1 Z.2.1 dX8_refusal_27 (by decide +kernel) ?_
      refine lv_icmp_ge (tgt := 35) Z.1 Z.2.1 dX8_refusal_29 (by decide) (fun c29 => ?_) (fun c29 => ?_)
      · have c29 : 50 ≤ SH d := c29
        have c29n : ¬ SH d < 50 := Int32.not_lt.mpr c29
        refine lv_iload_n Z.1 Z.2.1 dX8_refusal_35 rfl (lv_at hl 2 rfl) ?_
        refine lv_if_lt (tgt := 53) Z.1 Z.2.1 dX8_refusal_36 (by decide) (fun c36 => ?_) (fun c36 => ?_)
        · have c36 : y < 0 := c36
          refine lv_bipush (v := (-13)) Z.1 Z.2.1 dX8_refusal_53 (by decide +kernel) ?_
          exact zk_reti Z hR_ hlk hK hQ G () (by unfold zm_re; rw [c4_0, if_pos rfl, zb_nat hd, if_neg c15n, if_neg c29n, zb_w_neg c36]; rfl) rfl dX8_refusal_55
        have c36 : ¬ y < 0 := c36
        obtain ⟨j, hj, rfl⟩ := nI_of c36
        have hm9 := hmn d
        refine lv_iload_n Z.1 Z.2.1 dX8_refusal_39 rfl (lv_at hl 2 rfl) ?_
        refine lv_aload_n Z.1 Z.2.1 dX8_refusal_40 rfl (lv_at hl 0 rfl) ?_
        refine zk_get (C := RX8) (T := TX8) (N := 48) (ci := 8) Z hK G hinX8 0 rfl rfl 45 (by decide) (List.mem_cons_of_mem _ wa8_29) rfl (v := .ref (b 45)) rfl dX8_refusal_41 ?_
        refine lv_iload_n Z.1 Z.2.1 dX8_refusal_44 rfl (lv_at hl 1 rfl) ?_
        refine zk_iald Z hK G 2 rfl (k := d) (by omega) (by decide) (v := nI (MN d)) rfl dX8_refusal_45 ?_
        refine lv_icmp_ge (tgt := 53) Z.1 Z.2.1 dX8_refusal_46 (by decide) (fun c46 => ?_) (fun c46 => ?_)
        · have c46 : MN d ≤ j := zk_le (by omega) (by omega) c46
          refine lv_bipush (v := (-13)) Z.1 Z.2.1 dX8_refusal_53 (by decide +kernel) ?_
          exact zk_reti Z hR_ hlk hK hQ G () (by unfold zm_re; rw [c4_0, if_pos rfl, zb_nat hd, if_neg c15n, if_neg c29n, zb_w_n hj, decide_eq_false (Nat.not_lt.mpr c46)]; rfl) rfl dX8_refusal_55
        have c46 : j < MN d := zk_nle (by omega) (by omega) c46
        refine lv_iconst (v := nI 0) Z.1 Z.2.1 dX8_refusal_49 (by decide +kernel) ?_
        refine lv_goto (tgt := 55) Z.1 Z.2.1 dX8_refusal_50 (by decide) ?_
        exact zk_reti Z hR_ hlk hK hQ G () (by unfold zm_re; rw [c4_0, if_pos rfl, zb_nat hd, if_neg c15n, if_neg c29n, zb_w_n hj, decide_eq_true c46]; rfl) rfl dX8_refusal_55
      have c29 : ¬ 50 ≤ SH d := c29
      have c29n : SH d < 50 := Int32.not_le.mp c29
      refine lv_bipush (v := (-12)) Z.1 Z.2.1 dX8_refusal_32 (by decide +kernel) ?_
      exact zk_reti Z hR_ hlk hK hQ G () (by unfold zm_re; rw [c4_0, if_pos rfl, zb_nat hd, if_neg c15n, if_pos c29n]) rfl dX8_refusal_34
    have c15 : ¬ 0 ≤ SH d := c15
    have c15n : SH d < 0 := Int32.not_le.mp c15
    refine lv_bipush (v := (-11)) Z.1 Z.2.1 dX8_refusal_18 (by decide +kernel) ?_
    exact zk_reti Z hR_ hlk hK hQ G () (by unfold zm_re; rw [c4_0, if_pos rfl, zb_nat hd, if_pos c15n]) rfl dX8_refusal_20
  have c4 : (zb_w 6 x) = false := zk_b0.mp c4
  refine lv_iconst (v := (-1)) Z.1 Z.2.1 dX8_refusal_7 (by decide +kernel) ?_
  exact zk_reti Z hR_ hlk hK hQ G () (by unfold zm_re; rw [c4]; rfl) rfl dX8_refusal_8

abbrev rm_X8_asSort : Room := { frames := 0, cells := 0, slots := 0, locals := 0 }
theorem dvX8_asSort : zk_dv yX8_asSort RX8 2 := by decide +kernel
set_option maxRecDepth 100000 in
set_option maxHeartbeats 1500000 in
theorem ct_X8_asSort (l : Launch) (D : va_G) (g : Nat → ClassId) (τ : Nat → Nat) (x : Int32) (v : Int64)  : zk_ML l D g τ yX8_asSort wmX8_asSort rm_X8_asSort [.int x, .long v] [] (fun (r : Int64) (_ : Unit) => r = zh_as x v) (fun (_ : Unit) => []) := by
  refine zk_of (av := [.int x, .long v]) (W0 := []) (y := yX8_asSort) (wd := wmX8_asSort) (Qc := fun A => va_Ql (fun (r : Int64) (_ : Unit) => r = zh_as x v) (zk_B D g A (fun (_ : Unit) => [])) A) (cc := cX8_asSort) (maxL := 3) (ret := (some .long)) (own := RX8) (by decide) rfl rfl (Nat.le_of_ble_eq_true rfl) ?_
  intro pP eE sS mM args below meth cC aA ls qQ Z hR_ hlk hnm hK hT hA hQ G hl
  refine lv_iload_n Z.1 Z.2.1 dX8_asSort_0 rfl (lv_at hl 0 rfl) ?_
  refine lv_if_ne (tgt := 11) Z.1 Z.2.1 dX8_asSort_1 (by decide) (fun c1 => ?_) (fun c1 => ?_)
  · have c1 : ¬ x = 0 := c1
    refine lv_iload_n Z.1 Z.2.1 dX8_asSort_11 rfl (lv_at hl 0 rfl) ?_
    refine lv_iconst (v := nI 1) Z.1 Z.2.1 dX8_asSort_12 (by decide +kernel) ?_
    refine lv_icmp_ne (tgt := 23) Z.1 Z.2.1 dX8_asSort_13 (by decide) (fun c13 => ?_) (fun c13 => ?_)
    · have c13 : ¬ x = 1 := c13
      refine lv_iload_n Z.1 Z.2.1 dX8_asSort_23 rfl (lv_at hl 0 rfl) ?_
      refine lv_iconst (v := nI 2) Z.1 Z.2.1 dX8_asSort_24 (by decide +kernel) ?_
      refine lv_icmp_ne (tgt := 34) Z.1 Z.2.1 dX8_asSort_25 (by decide) (fun c25 => ?_) (fun c25 => ?_)
      · have c25 : ¬ x = 2 := c25
        refine lv_iload_n Z.1 Z.2.1 dX8_asSort_34 rfl (lv_at hl 0 rfl) ?_
        refine lv_iconst (v := nI 4) Z.1 Z.2.1 dX8_asSort_35 (by decide +kernel) ?_
        refine lv_icmp_ne (tgt := 53) Z.1 Z.2.1 dX8_asSort_36 (by decide) (fun c36 => ?_) (fun c36 => ?_)
        · have c36 : ¬ x = 4 := c36
          refine lv_lload_n Z.1 Z.2.1 dX8_asSort_53 rfl (lv_at hl 1 rfl) ?_
          exact zk_retl Z hR_ hlk hK hQ G () (by unfold zh_as; rw [if_neg (show ¬ x = nI 0 from c1), if_neg (show ¬ x = nI 1 from c13), if_neg (show ¬ x = nI 2 from c25), if_neg (show ¬ x = nI 4 from c36)]) rfl dX8_asSort_54
        have c36 : x = 4 := c36
        refine lv_lload_n Z.1 Z.2.1 dX8_asSort_39 rfl (lv_at hl 1 rfl) ?_
        refine lv_lconst (v := lN 0) Z.1 Z.2.1 dX8_asSort_40 (by decide +kernel) ?_
        refine zk_lcmp Z dX8_asSort_41 (z := lg_cmp v (lN 0)) rfl ?_
        refine lv_if_eq (tgt := 49) Z.1 Z.2.1 dX8_asSort_42 (by decide) (fun c42 => ?_) (fun c42 => ?_)
        · have c42 : v = 0 := zs_lcz c42
          refine lv_lconst (v := lN 0) Z.1 Z.2.1 dX8_asSort_49 (by decide +kernel) ?_
          refine lv_goto (tgt := 54) Z.1 Z.2.1 dX8_asSort_50 (by decide) ?_
          exact zk_retl Z hR_ hlk hK hQ G () (by unfold zh_as; rw [if_neg (show ¬ x = nI 0 from c1), if_neg (show ¬ x = nI 1 from c13), if_neg (show ¬ x = nI 2 from c25), if_pos (show x = nI 4 from c36), if_pos c42]) rfl dX8_asSort_54
        have c42 : ¬ v = 0 := zs_lcn c42
        refine lv_lconst (v := lN 1) Z.1 Z.2.1 dX8_asSort_45 (by decide +kernel) ?_
        refine lv_goto (tgt := 54) Z.1 Z.2.1 dX8_asSort_46 (by decide) ?_
        exact zk_retl Z hR_ hlk hK hQ G () (by unfold zh_as; rw [if_neg (show ¬ x = nI 0 from c1), if_neg (show ¬ x = nI 1 from c13), if_neg (show ¬ x = nI 2 from c25), if_pos (show x = nI 4 from c36), if_neg c42]) rfl dX8_asSort_54
      have c25 : x = 2 := c25
      refine lv_lload_n Z.1 Z.2.1 dX8_asSort_28 rfl (lv_at hl 1 rfl) ?_
      refine lv_l2i (v := v.toInt32) Z.1 Z.2.1 dX8_asSort_29 rfl ?_
      refine lv_i2l (v := v.toInt32.toInt64) Z.1 Z.2.1 dX8_asSort_30 rfl ?_
      refine lv_goto (tgt := 54) Z.1 Z.2.1 dX8_asSort_31 (by decide) ?_
      exact zk_retl Z hR_ hlk hK hQ G () (by unfold zh_as; rw [if_neg (show ¬ x = nI 0 from c1), if_neg (show ¬ x = nI 1 from c13), if_pos (show x = nI 2 from c25)]) rfl dX8_asSort_54
    have c13 : x = 1 := c13
    refine lv_lload_n Z.1 Z.2.1 dX8_asSort_16 rfl (lv_at hl 1 rfl) ?_
    refine lv_l2i (v := v.toInt32) Z.1 Z.2.1 dX8_asSort_17 rfl ?_
    refine lv_i2s (v := v.toInt32.toInt16.toInt32) Z.1 Z.2.1 dX8_asSort_18 rfl ?_
    refine lv_i2l (v := v.toInt32.toInt16.toInt32.toInt64) Z.1 Z.2.1 dX8_asSort_19 rfl ?_
    refine lv_goto (tgt := 54) Z.1 Z.2.1 dX8_asSort_20 (by decide) ?_
    exact zk_retl Z hR_ hlk hK hQ G () (by unfold zh_as; rw [if_neg (show ¬ x = nI 0 from c1), if_pos (show x = nI 1 from c13)]) rfl dX8_asSort_54
  have c1 : x = 0 := c1
  refine lv_lload_n Z.1 Z.2.1 dX8_asSort_4 rfl (lv_at hl 1 rfl) ?_
  refine lv_l2i (v := v.toInt32) Z.1 Z.2.1 dX8_asSort_5 rfl ?_
  refine lv_i2b (v := v.toInt32.toInt8.toInt32) Z.1 Z.2.1 dX8_asSort_6 rfl ?_
  refine lv_i2l (v := v.toInt32.toInt8.toInt32.toInt64) Z.1 Z.2.1 dX8_asSort_7 rfl ?_
  refine lv_goto (tgt := 54) Z.1 Z.2.1 dX8_asSort_8 (by decide) ?_
  exact zk_retl Z hR_ hlk hK hQ G () (by unfold zh_as; rw [if_pos (show x = nI 0 from c1)]) rfl dX8_asSort_54

theorem zm_re_0 {SH : Nat → Int32} {MN : Nat → Nat} {x i : Int32} (h : zm_re SH MN x i = 0) : zb_w 6 x = true ∧ zb_w (MN x.toInt.toNat) i = true := by
  unfold zm_re at h
  cases h9 : zb_w 6 x
  · rw [h9, if_neg (by decide)] at h; exact absurd h (by decide)
  · refine ⟨rfl, ?_⟩
    rw [h9, if_pos rfl] at h
    split at h
    · exact absurd h (by decide)
    · split at h
      · exact absurd h (by decide)
      · split at h
        · rename_i h8; exact h8
        · exact absurd h (by decide)

abbrev rm_X8_put : Room := { frames := 3, cells := 0, slots := 0, locals := 67 }
theorem dvX8_put : zk_dv yX8_put RX8 3 := by decide +kernel
theorem gmX8_put_X8_refusal : GoodIn wmX8_put (wsV RX8 348 RX8 yX8_refusal wmX8_refusal) := goodIn_app (wa8_w (List.forall_mem_cons.mpr ⟨wa8_297, List.forall_mem_cons.mpr ⟨wa8_298, List.forall_mem_cons.mpr ⟨wa8_299, List.forall_mem_cons.mpr ⟨wa8_43, fun _ h => absurd h List.not_mem_nil⟩⟩⟩⟩)) (wa8_sub wa8_294)
theorem gmX8_put_X8_asSort : GoodIn wmX8_put (va_wsS RX8 351 yX8_asSort wmX8_asSort) := goodIn_app (wa8_w (List.forall_mem_cons.mpr ⟨wa8_300, List.forall_mem_cons.mpr ⟨wa8_301, List.forall_mem_cons.mpr ⟨wa8_43, fun _ h => absurd h List.not_mem_nil⟩⟩⟩)) (wa8_sub wa8_295)
set_option maxRecDepth 100000 in
set_option maxHeartbeats 1500000 in
theorem ct_X8_put (l : Launch) (D : va_G) (g : Nat → ClassId) (τ : Nat → Nat) (b : Nat → Nat) (m : Nat → Int32) (SH : Nat → Int32) (MN : Nat → Nat) (IT : Nat → Int64) (x : Int32) (y : Int32) (v : Int64) (hmn : ∀ i, MN i ≤ 60) : zk_MI l D g τ yX8_put wmX8_put rm_X8_put [.ref (b 100), .int x, .int y, .long v] [(b 100, .inr (8, [.ref (b 0), .ref (b 1), .ref (b 2), .ref (b 3), .int (m 4), .int (m 5), .int (m 6), .int (m 7), .ref (b 8), .int (m 9), .ref (b 10), .int (m 11), .int (m 12), .int (m 13), .int (m 14), .int (m 15), .int (m 16), .ref (b 17), .ref (b 18), .ref (b 19), .ref (b 20), .ref (b 21), .ref (b 22), .ref (b 23), .ref (b 24), .int (m 25), .int (m 26), .int (m 27), .int (m 28), .ref (b 29), .ref (b 30), .int (m 31), .int (m 32), .int (m 33), .int (m 34), .int (m 35), .ref (b 36), .ref (b 37), .int (m 38), .ref (b 39), .ref (b 40), .int (m 41), .int (m 42), .int (m 43), .ref (b 44), .ref (b 45), .ref (b 46), .ref (b 47)])), (b 44, .inl (g 0, 6, .inl SH)), (b 45, .inl (g 0, 6, .inl (fun i => nI (MN i)))), (b 46, .inl (g 1, 360, .inr (.inl IT)))] (fun (r : Int32) (_ : Unit) => r = if zm_re SH MN x y = 0 then 1 else zm_re SH MN x y) (fun (_ : Unit) => [(b 100, .inr (8, [.ref (b 0), .ref (b 1), .ref (b 2), .ref (b 3), .int (m 4), .int (m 5), .int (m 6), .int (m 7), .ref (b 8), .int (m 9), .ref (b 10), .int (m 11), .int (m 12), .int (m 13), .int (m 14), .int (m 15), .int (m 16), .ref (b 17), .ref (b 18), .ref (b 19), .ref (b 20), .ref (b 21), .ref (b 22), .ref (b 23), .ref (b 24), .int (m 25), .int (m 26), .int (m 27), .int (m 28), .ref (b 29), .ref (b 30), .int (m 31), .int (m 32), .int (m 33), .int (m 34), .int (m 35), .ref (b 36), .ref (b 37), .int (m 38), .ref (b 39), .ref (b 40), .int (m 41), .int (m 42), .int (m 43), .ref (b 44), .ref (b 45), .ref (b 46), .ref (b 47)])), (b 44, .inl (g 0, 6, .inl SH)), (b 45, .inl (g 0, 6, .inl (fun i => nI (MN i)))), (b 46, .inl (g 1, 360, .inr (.inl (if zm_re SH MN x y = 0 then vp_updL IT (60 * x.toInt.toNat + y.toInt.toNat) (zh_as (SH x.toInt.toNat - nI 50) v) else IT))))]) := by
  refine zk_of (av := [.ref (b 100), .int x, .int y, .long v]) (W0 := [(b 100, .inr (8, [.ref (b 0), .ref (b 1), .ref (b 2), .ref (b 3), .int (m 4), .int (m 5), .int (m 6), .int (m 7), .ref (b 8), .int (m 9), .ref (b 10), .int (m 11), .int (m 12), .int (m 13), .int (m 14), .int (m 15), .int (m 16), .ref (b 17), .ref (b 18), .ref (b 19), .ref (b 20), .ref (b 21), .ref (b 22), .ref (b 23), .ref (b 24), .int (m 25), .int (m 26), .int (m 27), .int (m 28), .ref (b 29), .ref (b 30), .int (m 31), .int (m 32), .int (m 33), .int (m 34), .int (m 35), .ref (b 36), .ref (b 37), .int (m 38), .ref (b 39), .ref (b 40), .int (m 41), .int (m 42), .int (m 43), .ref (b 44), .ref (b 45), .ref (b 46), .ref (b 47)])), (b 44, .inl (g 0, 6, .inl SH)), (b 45, .inl (g 0, 6, .inl (fun i => nI (MN i)))), (b 46, .inl (g 1, 360, .inr (.inl IT)))]) (y := yX8_put) (wd := wmX8_put) (Qc := fun A => va_Qi (fun (r : Int32) (_ : Unit) => r = if zm_re SH MN x y = 0 then 1 else zm_re SH MN x y) (zk_B D g A (fun (_ : Unit) => [(b 100, .inr (8, [.ref (b 0), .ref (b 1), .ref (b 2), .ref (b 3), .int (m 4), .int (m 5), .int (m 6), .int (m 7), .ref (b 8), .int (m 9), .ref (b 10), .int (m 11), .int (m 12), .int (m 13), .int (m 14), .int (m 15), .int (m 16), .ref (b 17), .ref (b 18), .ref (b 19), .ref (b 20), .ref (b 21), .ref (b 22), .ref (b 23), .ref (b 24), .int (m 25), .int (m 26), .int (m 27), .int (m 28), .ref (b 29), .ref (b 30), .int (m 31), .int (m 32), .int (m 33), .int (m 34), .int (m 35), .ref (b 36), .ref (b 37), .int (m 38), .ref (b 39), .ref (b 40), .int (m 41), .int (m 42), .int (m 43), .ref (b 44), .ref (b 45), .ref (b 46), .ref (b 47)])), (b 44, .inl (g 0, 6, .inl SH)), (b 45, .inl (g 0, 6, .inl (fun i => nI (MN i)))), (b 46, .inl (g 1, 360, .inr (.inl (if zm_re SH MN x y = 0 then vp_updL IT (60 * x.toInt.toNat + y.toInt.toNat) (zh_as (SH x.toInt.toNat - nI 50) v) else IT))))])) A) (cc := cX8_put) (maxL := 6) (ret := (some .int)) (own := RX8) (by decide) rfl rfl (Nat.le_of_ble_eq_true rfl) ?_
  intro pP eE sS mM args below meth cC aA ls qQ Z hR_ hlk hnm hK hT hA hQ G hl
  have hinX8 : ∀ w ∈ u_ws RX8 TX8 48, w ∈ wmX8_put := wa8_in
  refine lv_aload_n Z.1 Z.2.1 dX8_put_0 rfl (lv_at hl 0 rfl) ?_
  refine lv_iload_n Z.1 Z.2.1 dX8_put_1 rfl (lv_at hl 1 rfl) ?_
  refine lv_iload_n Z.1 Z.2.1 dX8_put_2 rfl (lv_at hl 2 rfl) ?_
  refine zk_ci (WF := fun (_ : Unit) => [(b 100, .inr (8, [.ref (b 0), .ref (b 1), .ref (b 2), .ref (b 3), .int (m 4), .int (m 5), .int (m 6), .int (m 7), .ref (b 8), .int (m 9), .ref (b 10), .int (m 11), .int (m 12), .int (m 13), .int (m 14), .int (m 15), .int (m 16), .ref (b 17), .ref (b 18), .ref (b 19), .ref (b 20), .ref (b 21), .ref (b 22), .ref (b 23), .ref (b 24), .int (m 25), .int (m 26), .int (m 27), .int (m 28), .ref (b 29), .ref (b 30), .int (m 31), .int (m 32), .int (m 33), .int (m 34), .int (m 35), .ref (b 36), .ref (b 37), .int (m 38), .ref (b 39), .ref (b 40), .int (m 41), .int (m 42), .int (m 43), .ref (b 44), .ref (b 45), .ref (b 46), .ref (b 47)])), (b 44, .inl (g 0, 6, .inl SH)), (b 45, .inl (g 0, 6, .inl (fun i => nI (MN i)))), (b 46, .inl (g 1, 360, .inr (.inl IT)))]) (wr := [(b 46, .inl (g 1, 360, .inr (.inl IT)))]) ⟨rfl, rfl⟩ (zk_rv (As := [.int x, .int y]) (rest := []) (q0 := 0) (ci := 8) Z ((ct_X8_refusal l D g τ b m SH MN x y (by intro i9; have := hmn i9; omega)) sS.heap.size) hK hT hA G [0, 1, 2] rfl (by decide) rfl rfl gmX8_put_X8_refusal rfl dvX8_refusal ⟨by decide, by decide⟩ rfl hl.1 rfl (Nat.le_of_ble_eq_true rfl) dX8_put_3 ⟨Nat.zero_le _, Nat.zero_le _⟩) hA G [0, 1, 2] [3] [1, 2, 3, 0] rfl rfl (by decide) (by decide) (by decide) (fun _ => rfl) (fun r_3 _ H locs w_3 G => ?_)
  obtain rfl : r_3 = zm_re SH MN x y := w_3
  refine lv_istore (lv' := [(5, .int (zm_re SH MN x y)), (0, .ref (b 100)), (1, .int x), (2, .int y), (3, .long v)]) Z.1 Z.2.1 dX8_put_6 hl (by decide) rfl (fun ls hl => ?_)
  refine lv_iload Z.1 Z.2.1 dX8_put_8 (lv_at hl 0 rfl) ?_
  refine lv_if_ne (tgt := 37) Z.1 Z.2.1 dX8_put_10 (by decide) (fun c10 => ?_) (fun c10 => ?_)
  · have c10 : ¬ zm_re SH MN x y = 0 := c10
    refine lv_iload Z.1 Z.2.1 dX8_put_37 (lv_at hl 0 rfl) ?_
    refine lv_if_ne (tgt := 46) Z.1 Z.2.1 dX8_put_39 (by decide) (fun c39 => ?_) (fun c39 => ?_)
    · have c39 : ¬ zm_re SH MN x y = 0 := c39
      refine lv_iload Z.1 Z.2.1 dX8_put_46 (lv_at hl 0 rfl) ?_
      exact zk_reti Z hR_ hlk hK hQ G () (by rw [if_neg c10]) (by rw [if_neg c10]) dX8_put_48
    exfalso
    have c39 : zm_re SH MN x y = 0 := c39
    exact c10 c39
  have c10 : zm_re SH MN x y = 0 := c10
  have c10_0 := c10
  obtain ⟨hw9, hp9⟩ := zm_re_0 c10
  obtain ⟨d, hd, rfl, hd2⟩ := zb_w_ex hw9
  rw [zb_nat hd] at hp9
  obtain ⟨i, hi, rfl, hi2⟩ := zb_w_ex hp9
  have hm9 := hmn d
  refine lv_aload_n Z.1 Z.2.1 dX8_put_13 rfl (lv_at hl 1 rfl) ?_
  refine zk_get (C := RX8) (T := TX8) (N := 48) (ci := 8) Z hK G hinX8 0 rfl rfl 46 (by decide) (List.mem_cons_of_mem _ wa8_31) rfl (v := .ref (b 46)) rfl dX8_put_14 ?_
  refine lv_bipush (v := nI 60) Z.1 Z.2.1 dX8_put_17 (by decide +kernel) ?_
  refine lv_iload_n Z.1 Z.2.1 dX8_put_19 rfl (lv_at hl 2 rfl) ?_
  refine zk_imul Z dX8_put_20 (z := nI (60 * d)) (pk_mul _ _) ?_
  refine lv_iload_n Z.1 Z.2.1 dX8_put_21 rfl (lv_at hl 3 rfl) ?_
  refine zk_iadd Z dX8_put_22 (z := nI (60 * d + i)) (nI_add _ _) ?_
  refine lv_aload_n Z.1 Z.2.1 dX8_put_23 rfl (lv_at hl 1 rfl) ?_
  refine zk_get (C := RX8) (T := TX8) (N := 48) (ci := 8) Z hK G hinX8 0 rfl rfl 44 (by decide) (List.mem_cons_of_mem _ wa8_28) rfl (v := .ref (b 44)) rfl dX8_put_24 ?_
  refine lv_iload_n Z.1 Z.2.1 dX8_put_27 rfl (lv_at hl 2 rfl) ?_
  refine zk_iald Z hK G 1 rfl (k := d) (by omega) (by decide) (v := SH d) rfl dX8_put_28 ?_
  refine lv_bipush (v := nI 50) Z.1 Z.2.1 dX8_put_29 (by decide +kernel) ?_
  refine zk_isub Z dX8_put_31 (z := (SH d) - (nI 50)) rfl ?_
  refine lv_lload_n Z.1 Z.2.1 dX8_put_32 rfl (lv_at hl 4 rfl) ?_
  refine zk_cl (WF := fun (_ : Unit) => [(b 100, .inr (8, [.ref (b 0), .ref (b 1), .ref (b 2), .ref (b 3), .int (m 4), .int (m 5), .int (m 6), .int (m 7), .ref (b 8), .int (m 9), .ref (b 10), .int (m 11), .int (m 12), .int (m 13), .int (m 14), .int (m 15), .int (m 16), .ref (b 17), .ref (b 18), .ref (b 19), .ref (b 20), .ref (b 21), .ref (b 22), .ref (b 23), .ref (b 24), .int (m 25), .int (m 26), .int (m 27), .int (m 28), .ref (b 29), .ref (b 30), .int (m 31), .int (m 32), .int (m 33), .int (m 34), .int (m 35), .ref (b 36), .ref (b 37), .int (m 38), .ref (b 39), .ref (b 40), .int (m 41), .int (m 42), .int (m 43), .ref (b 44), .ref (b 45), .ref (b 46), .ref (b 47)])), (b 44, .inl (g 0, 6, .inl SH)), (b 45, .inl (g 0, 6, .inl (fun i => nI (MN i)))), (b 46, .inl (g 1, 360, .inr (.inl IT)))]) (wr := [(b 100, .inr (8, [.ref (b 0), .ref (b 1), .ref (b 2), .ref (b 3), .int (m 4), .int (m 5), .int (m 6), .int (m 7), .ref (b 8), .int (m 9), .ref (b 10), .int (m 11), .int (m 12), .int (m 13), .int (m 14), .int (m 15), .int (m 16), .ref (b 17), .ref (b 18), .ref (b 19), .ref (b 20), .ref (b 21), .ref (b 22), .ref (b 23), .ref (b 24), .int (m 25), .int (m 26), .int (m 27), .int (m 28), .ref (b 29), .ref (b 30), .int (m 31), .int (m 32), .int (m 33), .int (m 34), .int (m 35), .ref (b 36), .ref (b 37), .int (m 38), .ref (b 39), .ref (b 40), .int (m 41), .int (m 42), .int (m 43), .ref (b 44), .ref (b 45), .ref (b 46), .ref (b 47)])), (b 44, .inl (g 0, 6, .inl SH)), (b 45, .inl (g 0, 6, .inl (fun i => nI (MN i)))), (b 46, .inl (g 1, 360, .inr (.inl IT)))]) ⟨rfl, rfl⟩ (zk_rs (As := [.int ((SH d) - (nI 50)), .long v]) (rest := [.int (nI (60 * d + i)), .ref (b 46)]) Z ((ct_X8_asSort l D g τ ((SH d) - (nI 50)) v ) H.size) hK hT hA G [] rfl (by decide) gmX8_put_X8_asSort rfl dvX8_asSort ⟨by decide, by decide⟩ rfl hl.1 rfl (Nat.le_of_ble_eq_true rfl) dX8_put_33 ⟨Nat.zero_le _, Nat.zero_le _⟩) hA G [] [0, 1, 2, 3] [0, 1, 2, 3] rfl rfl (by decide) (by decide) (by decide) (fun _ => rfl) (fun r_33 _ H locs w_33 G => ?_)
  obtain rfl : r_33 = zh_as ((SH d) - (nI 50)) v := w_33
  refine zk_last Z hK G 3 rfl (k := 60 * d + i) (by omega) (by decide) rfl (ws' := [(b 100, .inr (8, [.ref (b 0), .ref (b 1), .ref (b 2), .ref (b 3), .int (m 4), .int (m 5), .int (m 6), .int (m 7), .ref (b 8), .int (m 9), .ref (b 10), .int (m 11), .int (m 12), .int (m 13), .int (m 14), .int (m 15), .int (m 16), .ref (b 17), .ref (b 18), .ref (b 19), .ref (b 20), .ref (b 21), .ref (b 22), .ref (b 23), .ref (b 24), .int (m 25), .int (m 26), .int (m 27), .int (m 28), .ref (b 29), .ref (b 30), .int (m 31), .int (m 32), .int (m 33), .int (m 34), .int (m 35), .ref (b 36), .ref (b 37), .int (m 38), .ref (b 39), .ref (b 40), .int (m 41), .int (m 42), .int (m 43), .ref (b 44), .ref (b 45), .ref (b 46), .ref (b 47)])), (b 44, .inl (g 0, 6, .inl SH)), (b 45, .inl (g 0, 6, .inl (fun i => nI (MN i)))), (b 46, .inl (g 1, 360, .inr (.inl (vp_updL IT (60 * d + i) (zh_as ((SH d) - (nI 50)) v)))))]) rfl dX8_put_36 (fun H locs G => ?_)
  refine lv_iload Z.1 Z.2.1 dX8_put_37 (lv_at hl 0 rfl) ?_
  refine lv_if_ne (tgt := 46) Z.1 Z.2.1 dX8_put_39 (by decide) (fun c39 => ?_) (fun c39 => ?_)
  · exfalso
    have c39 : ¬ zm_re SH MN (nI d) (nI i) = 0 := c39
    exact c39 c10_0
  have c39 : zm_re SH MN (nI d) (nI i) = 0 := c39
  refine lv_iconst (v := nI 1) Z.1 Z.2.1 dX8_put_42 (by decide +kernel) ?_
  refine lv_goto (tgt := 48) Z.1 Z.2.1 dX8_put_43 (by decide) ?_
  exact zk_reti Z hR_ hlk hK hQ G () (by rw [if_pos c10_0]; rfl) (by rw [if_pos c10_0, zb_nat hd, zb_nat hi]) dX8_put_48

abbrev rm_X8_element : Room := { frames := 3, cells := 0, slots := 0, locals := 67 }
theorem dvX8_element : zk_dv yX8_element RX8 2 := by decide +kernel
theorem gmX8_element_X8_refusal : GoodIn wmX8_element (wsV RX8 348 RX8 yX8_refusal wmX8_refusal) := goodIn_app (wa8_w (List.forall_mem_cons.mpr ⟨wa8_297, List.forall_mem_cons.mpr ⟨wa8_298, List.forall_mem_cons.mpr ⟨wa8_299, List.forall_mem_cons.mpr ⟨wa8_43, fun _ h => absurd h List.not_mem_nil⟩⟩⟩⟩)) (wa8_sub wa8_294)
set_option maxRecDepth 100000 in
set_option maxHeartbeats 1500000 in
theorem ct_X8_element (l : Launch) (D : va_G) (g : Nat → ClassId) (τ : Nat → Nat) (b : Nat → Nat) (m : Nat → Int32) (SH : Nat → Int32) (MN : Nat → Nat) (IT : Nat → Int64) (x : Int32) (y : Int32) (hmn : ∀ i, MN i ≤ 60) : zk_ML l D g τ yX8_element wmX8_element rm_X8_element [.ref (b 100), .int x, .int y] [(b 100, .inr (8, [.ref (b 0), .ref (b 1), .ref (b 2), .ref (b 3), .int (m 4), .int (m 5), .int (m 6), .int (m 7), .ref (b 8), .int (m 9), .ref (b 10), .int (m 11), .int (m 12), .int (m 13), .int (m 14), .int (m 15), .int (m 16), .ref (b 17), .ref (b 18), .ref (b 19), .ref (b 20), .ref (b 21), .ref (b 22), .ref (b 23), .ref (b 24), .int (m 25), .int (m 26), .int (m 27), .int (m 28), .ref (b 29), .ref (b 30), .int (m 31), .int (m 32), .int (m 33), .int (m 34), .int (m 35), .ref (b 36), .ref (b 37), .int (m 38), .ref (b 39), .ref (b 40), .int (m 41), .int (m 42), .int (m 43), .ref (b 44), .ref (b 45), .ref (b 46), .ref (b 47)])), (b 44, .inl (g 0, 6, .inl SH)), (b 45, .inl (g 0, 6, .inl (fun i => nI (MN i)))), (b 46, .inl (g 1, 360, .inr (.inl IT)))] (fun (r : Int64) (_ : Unit) => r = if zm_re SH MN x y = 0 then IT (60 * x.toInt.toNat + y.toInt.toNat) else -9223372036854775808) (fun (_ : Unit) => [(b 100, .inr (8, [.ref (b 0), .ref (b 1), .ref (b 2), .ref (b 3), .int (m 4), .int (m 5), .int (m 6), .int (m 7), .ref (b 8), .int (m 9), .ref (b 10), .int (m 11), .int (m 12), .int (m 13), .int (m 14), .int (m 15), .int (m 16), .ref (b 17), .ref (b 18), .ref (b 19), .ref (b 20), .ref (b 21), .ref (b 22), .ref (b 23), .ref (b 24), .int (m 25), .int (m 26), .int (m 27), .int (m 28), .ref (b 29), .ref (b 30), .int (m 31), .int (m 32), .int (m 33), .int (m 34), .int (m 35), .ref (b 36), .ref (b 37), .int (m 38), .ref (b 39), .ref (b 40), .int (m 41), .int (m 42), .int (m 43), .ref (b 44), .ref (b 45), .ref (b 46), .ref (b 47)])), (b 44, .inl (g 0, 6, .inl SH)), (b 45, .inl (g 0, 6, .inl (fun i => nI (MN i)))), (b 46, .inl (g 1, 360, .inr (.inl IT)))]) := by
  refine zk_of (av := [.ref (b 100), .int x, .int y]) (W0 := [(b 100, .inr (8, [.ref (b 0), .ref (b 1), .ref (b 2), .ref (b 3), .int (m 4), .int (m 5), .int (m 6), .int (m 7), .ref (b 8), .int (m 9), .ref (b 10), .int (m 11), .int (m 12), .int (m 13), .int (m 14), .int (m 15), .int (m 16), .ref (b 17), .ref (b 18), .ref (b 19), .ref (b 20), .ref (b 21), .ref (b 22), .ref (b 23), .ref (b 24), .int (m 25), .int (m 26), .int (m 27), .int (m 28), .ref (b 29), .ref (b 30), .int (m 31), .int (m 32), .int (m 33), .int (m 34), .int (m 35), .ref (b 36), .ref (b 37), .int (m 38), .ref (b 39), .ref (b 40), .int (m 41), .int (m 42), .int (m 43), .ref (b 44), .ref (b 45), .ref (b 46), .ref (b 47)])), (b 44, .inl (g 0, 6, .inl SH)), (b 45, .inl (g 0, 6, .inl (fun i => nI (MN i)))), (b 46, .inl (g 1, 360, .inr (.inl IT)))]) (y := yX8_element) (wd := wmX8_element) (Qc := fun A => va_Ql (fun (r : Int64) (_ : Unit) => r = if zm_re SH MN x y = 0 then IT (60 * x.toInt.toNat + y.toInt.toNat) else -9223372036854775808) (zk_B D g A (fun (_ : Unit) => [(b 100, .inr (8, [.ref (b 0), .ref (b 1), .ref (b 2), .ref (b 3), .int (m 4), .int (m 5), .int (m 6), .int (m 7), .ref (b 8), .int (m 9), .ref (b 10), .int (m 11), .int (m 12), .int (m 13), .int (m 14), .int (m 15), .int (m 16), .ref (b 17), .ref (b 18), .ref (b 19), .ref (b 20), .ref (b 21), .ref (b 22), .ref (b 23), .ref (b 24), .int (m 25), .int (m 26), .int (m 27), .int (m 28), .ref (b 29), .ref (b 30), .int (m 31), .int (m 32), .int (m 33), .int (m 34), .int (m 35), .ref (b 36), .ref (b 37), .int (m 38), .ref (b 39), .ref (b 40), .int (m 41), .int (m 42), .int (m 43), .ref (b 44), .ref (b 45), .ref (b 46), .ref (b 47)])), (b 44, .inl (g 0, 6, .inl SH)), (b 45, .inl (g 0, 6, .inl (fun i => nI (MN i)))), (b 46, .inl (g 1, 360, .inr (.inl IT)))])) A) (cc := cX8_element) (maxL := 3) (ret := (some .long)) (own := RX8) (by decide) rfl rfl (Nat.le_of_ble_eq_true rfl) ?_
  intro pP eE sS mM args below meth cC aA ls qQ Z hR_ hlk hnm hK hT hA hQ G hl
  have hinX8 : ∀ w ∈ u_ws RX8 TX8 48, w ∈ wmX8_element := wa8_in
  refine lv_aload_n Z.1 Z.2.1 dX8_element_0 rfl (lv_at hl 0 rfl) ?_
  refine lv_iload_n Z.1 Z.2.1 dX8_element_1 rfl (lv_at hl 1 rfl) ?_
  refine lv_iload_n Z.1 Z.2.1 dX8_element_2 rfl (lv_at hl 2 rfl) ?_
  refine zk_ci (WF := fun (_ : Unit) => [(b 100, .inr (8, [.ref (b 0), .ref (b 1), .ref (b 2), .ref (b 3), .int (m 4), .int (m 5), .int (m 6), .int (m 7), .ref (b 8), .int (m 9), .ref (b 10), .int (m 11), .int (m 12), .int (m 13), .int (m 14), .int (m 15), .int (m 16), .ref (b 17), .ref (b 18), .ref (b 19), .ref (b 20), .ref (b 21), .ref (b 22), .ref (b 23), .ref (b 24), .int (m 25), .int (m 26), .int (m 27), .int (m 28), .ref (b 29), .ref (b 30), .int (m 31), .int (m 32), .int (m 33), .int (m 34), .int (m 35), .ref (b 36), .ref (b 37), .int (m 38), .ref (b 39), .ref (b 40), .int (m 41), .int (m 42), .int (m 43), .ref (b 44), .ref (b 45), .ref (b 46), .ref (b 47)])), (b 44, .inl (g 0, 6, .inl SH)), (b 45, .inl (g 0, 6, .inl (fun i => nI (MN i)))), (b 46, .inl (g 1, 360, .inr (.inl IT)))]) (wr := [(b 46, .inl (g 1, 360, .inr (.inl IT)))]) ⟨rfl, rfl⟩ (zk_rv (As := [.int x, .int y]) (rest := []) (q0 := 0) (ci := 8) Z ((ct_X8_refusal l D g τ b m SH MN x y (by intro i9; have := hmn i9; omega)) sS.heap.size) hK hT hA G [0, 1, 2] rfl (by decide) rfl rfl gmX8_element_X8_refusal rfl dvX8_refusal ⟨by decide, by decide⟩ rfl hl.1 rfl (Nat.le_of_ble_eq_true rfl) dX8_element_3 ⟨Nat.zero_le _, Nat.zero_le _⟩) hA G [0, 1, 2] [3] [1, 2, 3, 0] rfl rfl (by decide) (by decide) (by decide) (fun _ => rfl) (fun r_3 _ H locs w_3 G => ?_)
  obtain rfl : r_3 = zm_re SH MN x y := w_3
  refine lv_if_eq (tgt := 15) Z.1 Z.2.1 dX8_element_6 (by decide) (fun c6 => ?_) (fun c6 => ?_)
  · have c6 : zm_re SH MN x y = 0 := c6
    have c6_0 := c6
    obtain ⟨hw9, hp9⟩ := zm_re_0 c6
    obtain ⟨d, hd, rfl, hd2⟩ := zb_w_ex hw9
    rw [zb_nat hd] at hp9
    obtain ⟨i, hi, rfl, hi2⟩ := zb_w_ex hp9
    have hm9 := hmn d
    refine lv_aload_n Z.1 Z.2.1 dX8_element_15 rfl (lv_at hl 0 rfl) ?_
    refine zk_get (C := RX8) (T := TX8) (N := 48) (ci := 8) Z hK G hinX8 0 rfl rfl 46 (by decide) (List.mem_cons_of_mem _ wa8_31) rfl (v := .ref (b 46)) rfl dX8_element_16 ?_
    refine lv_bipush (v := nI 60) Z.1 Z.2.1 dX8_element_19 (by decide +kernel) ?_
    refine lv_iload_n Z.1 Z.2.1 dX8_element_21 rfl (lv_at hl 1 rfl) ?_
    refine zk_imul Z dX8_element_22 (z := nI (60 * d)) (pk_mul _ _) ?_
    refine lv_iload_n Z.1 Z.2.1 dX8_element_23 rfl (lv_at hl 2 rfl) ?_
    refine zk_iadd Z dX8_element_24 (z := nI (60 * d + i)) (nI_add _ _) ?_
    refine zk_lald Z hK G 3 rfl (k := 60 * d + i) (by omega) (by decide) (v := IT (60 * d + i)) rfl dX8_element_25 ?_
    exact zk_retl Z hR_ hlk hK hQ G () (by rw [if_pos c6_0, zb_nat hd, zb_nat hi]) rfl dX8_element_26
  have c6 : ¬ zm_re SH MN x y = 0 := c6
  refine lv_ldc2 (v := (-9223372036854775808)) Z.1 Z.2.1 Z.2.2.2.1 (Z.2.2.2.2 _ (List.mem_cons_of_mem _ wa8_212)) dX8_element_9 ?_
  refine lv_goto (tgt := 26) Z.1 Z.2.1 dX8_element_12 (by decide) ?_
  exact zk_retl Z hR_ hlk hK hQ G () (by rw [if_neg c6]) rfl dX8_element_26

abbrev rm_X8_cameMany : Room := { frames := 0, cells := 0, slots := 0, locals := 0 }
theorem dvX8_cameMany : zk_dv yX8_cameMany RX8 0 := by decide +kernel
set_option maxRecDepth 100000 in
set_option maxHeartbeats 1500000 in
theorem ct_X8_cameMany (l : Launch) (D : va_G) (g : Nat → ClassId) (τ : Nat → Nat) (b : Nat → Nat) (m : Nat → Int32) (m1 : Nat) (MS : Nat → Int32) (hm1 : m1 ≤ 10) : zk_MI l D g τ yX8_cameMany wmX8_cameMany rm_X8_cameMany [.ref (b 100)] [(b 100, .inr (8, [.ref (b 0), .ref (b 1), .ref (b 2), .ref (b 3), .int (m 4), .int (m 5), .int (m 6), .int (m 7), .ref (b 8), .int (m 9), .ref (b 10), .int (m 11), .int (m 12), .int (m 13), .int (m 14), .int (m 15), .int (m 16), .ref (b 17), .ref (b 18), .ref (b 19), .ref (b 20), .ref (b 21), .ref (b 22), .ref (b 23), .ref (b 24), .int (m 25), .int (m 26), .int (m 27), .int (nI m1), .ref (b 29), .ref (b 30), .int (m 31), .int (m 32), .int (m 33), .int (m 34), .int (m 35), .ref (b 36), .ref (b 37), .int (m 38), .ref (b 39), .ref (b 40), .int (m 41), .int (m 42), .int (m 43), .ref (b 44), .ref (b 45), .ref (b 46), .ref (b 47)])), (b 29, .inl (g 0, 40, .inl MS))] (fun (r : Int32) (_ : Unit) => r = nI (zm_cnt MS m1)) (fun (_ : Unit) => [(b 100, .inr (8, [.ref (b 0), .ref (b 1), .ref (b 2), .ref (b 3), .int (m 4), .int (m 5), .int (m 6), .int (m 7), .ref (b 8), .int (m 9), .ref (b 10), .int (m 11), .int (m 12), .int (m 13), .int (m 14), .int (m 15), .int (m 16), .ref (b 17), .ref (b 18), .ref (b 19), .ref (b 20), .ref (b 21), .ref (b 22), .ref (b 23), .ref (b 24), .int (m 25), .int (m 26), .int (m 27), .int (nI m1), .ref (b 29), .ref (b 30), .int (m 31), .int (m 32), .int (m 33), .int (m 34), .int (m 35), .ref (b 36), .ref (b 37), .int (m 38), .ref (b 39), .ref (b 40), .int (m 41), .int (m 42), .int (m 43), .ref (b 44), .ref (b 45), .ref (b 46), .ref (b 47)])), (b 29, .inl (g 0, 40, .inl MS))]) := by
  refine zk_of (av := [.ref (b 100)]) (W0 := [(b 100, .inr (8, [.ref (b 0), .ref (b 1), .ref (b 2), .ref (b 3), .int (m 4), .int (m 5), .int (m 6), .int (m 7), .ref (b 8), .int (m 9), .ref (b 10), .int (m 11), .int (m 12), .int (m 13), .int (m 14), .int (m 15), .int (m 16), .ref (b 17), .ref (b 18), .ref (b 19), .ref (b 20), .ref (b 21), .ref (b 22), .ref (b 23), .ref (b 24), .int (m 25), .int (m 26), .int (m 27), .int (nI m1), .ref (b 29), .ref (b 30), .int (m 31), .int (m 32), .int (m 33), .int (m 34), .int (m 35), .ref (b 36), .ref (b 37), .int (m 38), .ref (b 39), .ref (b 40), .int (m 41), .int (m 42), .int (m 43), .ref (b 44), .ref (b 45), .ref (b 46), .ref (b 47)])), (b 29, .inl (g 0, 40, .inl MS))]) (y := yX8_cameMany) (wd := wmX8_cameMany) (Qc := fun A => va_Qi (fun (r : Int32) (_ : Unit) => r = nI (zm_cnt MS m1)) (zk_B D g A (fun (_ : Unit) => [(b 100, .inr (8, [.ref (b 0), .ref (b 1), .ref (b 2), .ref (b 3), .int (m 4), .int (m 5), .int (m 6), .int (m 7), .ref (b 8), .int (m 9), .ref (b 10), .int (m 11), .int (m 12), .int (m 13), .int (m 14), .int (m 15), .int (m 16), .ref (b 17), .ref (b 18), .ref (b 19), .ref (b 20), .ref (b 21), .ref (b 22), .ref (b 23), .ref (b 24), .int (m 25), .int (m 26), .int (m 27), .int (nI m1), .ref (b 29), .ref (b 30), .int (m 31), .int (m 32), .int (m 33), .int (m 34), .int (m 35), .ref (b 36), .ref (b 37), .int (m 38), .ref (b 39), .ref (b 40), .int (m 41), .int (m 42), .int (m 43), .ref (b 44), .ref (b 45), .ref (b 46), .ref (b 47)])), (b 29, .inl (g 0, 40, .inl MS))])) A) (cc := cX8_cameMany) (maxL := 3) (ret := (some .int)) (own := RX8) (by decide) rfl rfl (Nat.le_of_ble_eq_true rfl) ?_
  intro pP eE sS mM args below meth cC aA ls qQ Z hR_ hlk hnm hK hT hA hQ G hl
  have hinX8 : ∀ w ∈ u_ws RX8 TX8 48, w ∈ wmX8_cameMany := wa8_in
  refine lv_iconst (v := nI 0) Z.1 Z.2.1 dX8_cameMany_0 (by decide +kernel) ?_
  refine lv_istore_n (lv' := [(1, .int (nI 0)), (0, .ref (b 100))]) Z.1 Z.2.1 dX8_cameMany_1 rfl hl (by decide) rfl (fun ls hl => ?_)
  refine lv_iconst (v := nI 0) Z.1 Z.2.1 dX8_cameMany_2 (by decide +kernel) ?_
  refine lv_istore_n (lv' := [(2, .int (nI 0)), (1, .int (nI 0)), (0, .ref (b 100))]) Z.1 Z.2.1 dX8_cameMany_3 rfl hl (by decide) rfl (fun ls hl => ?_)
  have L4 : ∀ (nN : Nat) (k : Nat), m1 - k < nN → (k ≤ m1) → ∀ (H : Heap) (locs : List Loc) (ls : Array Slot), zk_G D aA [(b 100, .inr (8, [.ref (b 0), .ref (b 1), .ref (b 2), .ref (b 3), .int (m 4), .int (m 5), .int (m 6), .int (m 7), .ref (b 8), .int (m 9), .ref (b 10), .int (m 11), .int (m 12), .int (m 13), .int (m 14), .int (m 15), .int (m 16), .ref (b 17), .ref (b 18), .ref (b 19), .ref (b 20), .ref (b 21), .ref (b 22), .ref (b 23), .ref (b 24), .int (m 25), .int (m 26), .int (m 27), .int (nI m1), .ref (b 29), .ref (b 30), .int (m 31), .int (m 32), .int (m 33), .int (m 34), .int (m 35), .ref (b 36), .ref (b 37), .int (m 38), .ref (b 39), .ref (b 40), .int (m 41), .int (m 42), .int (m 43), .ref (b 44), .ref (b 45), .ref (b 46), .ref (b 47)])), (b 29, .inl (g 0, 40, .inl MS))] sS H locs → lv_has ls 3 [(0, .ref (b 100)), (1, .int (nI (zm_cnt MS k))), (2, .int (nI k))] → W pP l eE rm_X8_cameMany sS mM args below meth cC H locs 0 0 qQ (F0 mM 4 ls []) := by
    intro nN
    induction nN with
    | zero => intros; omega
    | succ nN ih4 =>
      intro k hμ h1 H locs ls G hl
      refine lv_iload_n Z.1 Z.2.1 dX8_cameMany_4 rfl (lv_at hl 2 rfl) ?_
      refine lv_aload_n Z.1 Z.2.1 dX8_cameMany_5 rfl (lv_at hl 0 rfl) ?_
      refine zk_get (C := RX8) (T := TX8) (N := 48) (ci := 8) Z hK G hinX8 0 rfl rfl 28 (by decide) (List.mem_cons_of_mem _ wa8_82) rfl (v := .int (nI m1)) rfl dX8_cameMany_6 ?_
      refine lv_icmp_ge (tgt := 39) Z.1 Z.2.1 dX8_cameMany_9 (by decide) (fun c9 => ?_) (fun c9 => ?_)
      · have c9 : m1 ≤ k := zk_le (by omega) (by omega) c9
        refine lv_iload_n Z.1 Z.2.1 dX8_cameMany_39 rfl (lv_at hl 1 rfl) ?_
        exact zk_reti Z hR_ hlk hK hQ G () (by rw [show k = m1 by omega]) rfl dX8_cameMany_40
      have c9 : k < m1 := zk_nle (by omega) (by omega) c9
      refine lv_iload_n Z.1 Z.2.1 dX8_cameMany_12 rfl (lv_at hl 1 rfl) ?_
      refine lv_aload_n Z.1 Z.2.1 dX8_cameMany_13 rfl (lv_at hl 0 rfl) ?_
      refine zk_get (C := RX8) (T := TX8) (N := 48) (ci := 8) Z hK G hinX8 0 rfl rfl 29 (by decide) (List.mem_cons_of_mem _ wa8_22) rfl (v := .ref (b 29)) rfl dX8_cameMany_14 ?_
      refine lv_iconst (v := nI 4) Z.1 Z.2.1 dX8_cameMany_17 (by decide +kernel) ?_
      refine lv_iload_n Z.1 Z.2.1 dX8_cameMany_18 rfl (lv_at hl 2 rfl) ?_
      refine zk_imul Z dX8_cameMany_19 (z := nI (4 * k)) (pk_mul _ _) ?_
      refine lv_iconst (v := nI 3) Z.1 Z.2.1 dX8_cameMany_20 (by decide +kernel) ?_
      refine zk_iadd Z dX8_cameMany_21 (z := nI (4 * k + 3)) (nI_add _ _) ?_
      refine zk_iald Z hK G 1 rfl (k := 4 * k + 3) (by omega) (by decide) (v := MS (4 * k + 3)) rfl dX8_cameMany_22 ?_
      refine lv_if_lt (tgt := 30) Z.1 Z.2.1 dX8_cameMany_23 (by decide) (fun c23 => ?_) (fun c23 => ?_)
      · have c23 : MS (4 * k + 3) < 0 := c23
        refine lv_iconst (v := nI 0) Z.1 Z.2.1 dX8_cameMany_30 (by decide +kernel) ?_
        refine zk_iadd Z dX8_cameMany_31 (z := nI (zm_cnt MS (k + 1))) ((nI_add _ _).trans (congrArg nI (by simp only [zm_cnt]; rw [if_neg (Int32.not_le.mpr c23)]))) ?_
        refine lv_istore_n (lv' := [(1, .int (nI (zm_cnt MS (k + 1)))), (0, .ref (b 100)), (2, .int (nI k))]) Z.1 Z.2.1 dX8_cameMany_32 rfl hl (by decide) rfl (fun ls hl => ?_)
        refine lv_iinc (v := nI (k + 1)) (lv' := [(2, .int (nI (k + 1))), (1, .int (nI (zm_cnt MS (k + 1)))), (0, .ref (b 100))]) Z.1 Z.2.1 dX8_cameMany_33 hl (k := 2) rfl (zk_inc k 1) (by decide) rfl (fun ls hl => ?_)
        refine lv_goto (tgt := 4) Z.1 Z.2.1 dX8_cameMany_36 (by decide) ?_
        exact ih4 (k + 1) (by omega) (by omega) _ _ _ G (lv_sub hl [2, 1, 0] rfl)
      have c23 : ¬ MS (4 * k + 3) < 0 := c23
      refine lv_iconst (v := nI 1) Z.1 Z.2.1 dX8_cameMany_26 (by decide +kernel) ?_
      refine lv_goto (tgt := 31) Z.1 Z.2.1 dX8_cameMany_27 (by decide) ?_
      refine zk_iadd Z dX8_cameMany_31 (z := nI (zm_cnt MS (k + 1))) ((nI_add _ _).trans (congrArg nI (by simp only [zm_cnt]; rw [if_pos (show (0 : Int32) ≤ MS (4 * k + 3) from Int32.not_lt.mp c23)]))) ?_
      refine lv_istore_n (lv' := [(1, .int (nI (zm_cnt MS (k + 1)))), (0, .ref (b 100)), (2, .int (nI k))]) Z.1 Z.2.1 dX8_cameMany_32 rfl hl (by decide) rfl (fun ls hl => ?_)
      refine lv_iinc (v := nI (k + 1)) (lv' := [(2, .int (nI (k + 1))), (1, .int (nI (zm_cnt MS (k + 1)))), (0, .ref (b 100))]) Z.1 Z.2.1 dX8_cameMany_33 hl (k := 2) rfl (zk_inc k 1) (by decide) rfl (fun ls hl => ?_)
      refine lv_goto (tgt := 4) Z.1 Z.2.1 dX8_cameMany_36 (by decide) ?_
      exact ih4 (k + 1) (by omega) (by omega) _ _ _ G (lv_sub hl [2, 1, 0] rfl)
  exact L4 _ 0 (Nat.lt_succ_self _) (by omega) _ _ _ G (lv_sub hl [2, 1, 0] rfl)

abbrev rm_X8_count : Room := { frames := 1, cells := 0, slots := 0, locals := 22 }
theorem dvX8_count : zk_dv yX8_count RX8 1 := by decide +kernel
theorem gmX8_count_X8_cameMany : GoodIn wmX8_count (wsV RX8 361 RX8 yX8_cameMany wmX8_cameMany) := goodIn_app (wa8_w (List.forall_mem_cons.mpr ⟨wa8_311, List.forall_mem_cons.mpr ⟨wa8_312, List.forall_mem_cons.mpr ⟨wa8_313, List.forall_mem_cons.mpr ⟨wa8_43, fun _ h => absurd h List.not_mem_nil⟩⟩⟩⟩)) (wa8_sub wa8_251)
set_option maxRecDepth 100000 in
set_option maxHeartbeats 1500000 in
theorem ct_X8_count (l : Launch) (D : va_G) (g : Nat → ClassId) (τ : Nat → Nat) (b : Nat → Nat) (m : Nat → Int32) (n : Nat) (m1 : Nat) (MS : Nat → Int32) (ln : Nat) (d : Nat) (zr : Nat) (rn : Nat) (what : Int32) (hm1 : m1 ≤ 10) : zk_MI l D g τ yX8_count wmX8_count rm_X8_count [.ref (b 100), .int what] [(b 100, .inr (8, [.ref (b 0), .ref (b 1), .ref (b 2), .ref (b 3), .int (m 4), .int (nI d), .int (nI n), .int (m 7), .ref (b 8), .int (nI ln), .ref (b 10), .int (m 11), .int (m 12), .int (m 13), .int (m 14), .int (m 15), .int (m 16), .ref (b 17), .ref (b 18), .ref (b 19), .ref (b 20), .ref (b 21), .ref (b 22), .ref (b 23), .ref (b 24), .int (m 25), .int (m 26), .int (m 27), .int (nI m1), .ref (b 29), .ref (b 30), .int (m 31), .int (m 32), .int (m 33), .int (m 34), .int (m 35), .ref (b 36), .ref (b 37), .int (nI zr), .ref (b 39), .ref (b 40), .int (nI rn), .int (m 42), .int (m 43), .ref (b 44), .ref (b 45), .ref (b 46), .ref (b 47)])), (b 29, .inl (g 0, 40, .inl MS))] (fun (r : Int32) (_ : Unit) => r = zm_count n m1 MS ln d zr rn what) (fun (_ : Unit) => [(b 100, .inr (8, [.ref (b 0), .ref (b 1), .ref (b 2), .ref (b 3), .int (m 4), .int (nI d), .int (nI n), .int (m 7), .ref (b 8), .int (nI ln), .ref (b 10), .int (m 11), .int (m 12), .int (m 13), .int (m 14), .int (m 15), .int (m 16), .ref (b 17), .ref (b 18), .ref (b 19), .ref (b 20), .ref (b 21), .ref (b 22), .ref (b 23), .ref (b 24), .int (m 25), .int (m 26), .int (m 27), .int (nI m1), .ref (b 29), .ref (b 30), .int (m 31), .int (m 32), .int (m 33), .int (m 34), .int (m 35), .ref (b 36), .ref (b 37), .int (nI zr), .ref (b 39), .ref (b 40), .int (nI rn), .int (m 42), .int (m 43), .ref (b 44), .ref (b 45), .ref (b 46), .ref (b 47)])), (b 29, .inl (g 0, 40, .inl MS))]) := by
  refine zk_of (av := [.ref (b 100), .int what]) (W0 := [(b 100, .inr (8, [.ref (b 0), .ref (b 1), .ref (b 2), .ref (b 3), .int (m 4), .int (nI d), .int (nI n), .int (m 7), .ref (b 8), .int (nI ln), .ref (b 10), .int (m 11), .int (m 12), .int (m 13), .int (m 14), .int (m 15), .int (m 16), .ref (b 17), .ref (b 18), .ref (b 19), .ref (b 20), .ref (b 21), .ref (b 22), .ref (b 23), .ref (b 24), .int (m 25), .int (m 26), .int (m 27), .int (nI m1), .ref (b 29), .ref (b 30), .int (m 31), .int (m 32), .int (m 33), .int (m 34), .int (m 35), .ref (b 36), .ref (b 37), .int (nI zr), .ref (b 39), .ref (b 40), .int (nI rn), .int (m 42), .int (m 43), .ref (b 44), .ref (b 45), .ref (b 46), .ref (b 47)])), (b 29, .inl (g 0, 40, .inl MS))]) (y := yX8_count) (wd := wmX8_count) (Qc := fun A => va_Qi (fun (r : Int32) (_ : Unit) => r = zm_count n m1 MS ln d zr rn what) (zk_B D g A (fun (_ : Unit) => [(b 100, .inr (8, [.ref (b 0), .ref (b 1), .ref (b 2), .ref (b 3), .int (m 4), .int (nI d), .int (nI n), .int (m 7), .ref (b 8), .int (nI ln), .ref (b 10), .int (m 11), .int (m 12), .int (m 13), .int (m 14), .int (m 15), .int (m 16), .ref (b 17), .ref (b 18), .ref (b 19), .ref (b 20), .ref (b 21), .ref (b 22), .ref (b 23), .ref (b 24), .int (m 25), .int (m 26), .int (m 27), .int (nI m1), .ref (b 29), .ref (b 30), .int (m 31), .int (m 32), .int (m 33), .int (m 34), .int (m 35), .ref (b 36), .ref (b 37), .int (nI zr), .ref (b 39), .ref (b 40), .int (nI rn), .int (m 42), .int (m 43), .ref (b 44), .ref (b 45), .ref (b 46), .ref (b 47)])), (b 29, .inl (g 0, 40, .inl MS))])) A) (cc := cX8_count) (maxL := 2) (ret := (some .int)) (own := RX8) (by decide) rfl rfl (Nat.le_of_ble_eq_true rfl) ?_
  intro pP eE sS mM args below meth cC aA ls qQ Z hR_ hlk hnm hK hT hA hQ G hl
  have hinX8 : ∀ w ∈ u_ws RX8 TX8 48, w ∈ wmX8_count := wa8_in
  refine lv_iload_n Z.1 Z.2.1 dX8_count_0 rfl (lv_at hl 1 rfl) ?_
  by_cases c1_0 : what = nI 0
  · subst c1_0
    refine lv_tableIn (tgt := 44) Z.1 Z.2.1 dX8_count_1 (by decide) (by decide) (by rfl) (by decide) ?_
    refine lv_aload_n Z.1 Z.2.1 dX8_count_44 rfl (lv_at hl 0 rfl) ?_
    refine zk_get (C := RX8) (T := TX8) (N := 48) (ci := 8) Z hK G hinX8 0 rfl rfl 6 (by decide) (List.mem_cons_of_mem _ wa8_40) rfl (v := .int (nI n)) rfl dX8_count_45 ?_
    exact zk_reti Z hR_ hlk hK hQ G () (by unfold zm_count; rw [if_pos rfl]) rfl dX8_count_48
  by_cases c1_1 : what = nI 1
  · subst c1_1
    refine lv_tableIn (tgt := 49) Z.1 Z.2.1 dX8_count_1 (by decide) (by decide) (by rfl) (by decide) ?_
    refine lv_aload_n Z.1 Z.2.1 dX8_count_49 rfl (lv_at hl 0 rfl) ?_
    refine zk_get (C := RX8) (T := TX8) (N := 48) (ci := 8) Z hK G hinX8 0 rfl rfl 28 (by decide) (List.mem_cons_of_mem _ wa8_82) rfl (v := .int (nI m1)) rfl dX8_count_50 ?_
    exact zk_reti Z hR_ hlk hK hQ G () (by unfold zm_count; rw [if_neg (by decide), if_pos rfl]) rfl dX8_count_53
  by_cases c1_2 : what = nI 2
  · subst c1_2
    refine lv_tableIn (tgt := 54) Z.1 Z.2.1 dX8_count_1 (by decide) (by decide) (by rfl) (by decide) ?_
    refine lv_aload_n Z.1 Z.2.1 dX8_count_54 rfl (lv_at hl 0 rfl) ?_
    refine zk_ci (WF := fun (_ : Unit) => [(b 100, .inr (8, [.ref (b 0), .ref (b 1), .ref (b 2), .ref (b 3), .int (m 4), .int (nI d), .int (nI n), .int (m 7), .ref (b 8), .int (nI ln), .ref (b 10), .int (m 11), .int (m 12), .int (m 13), .int (m 14), .int (m 15), .int (m 16), .ref (b 17), .ref (b 18), .ref (b 19), .ref (b 20), .ref (b 21), .ref (b 22), .ref (b 23), .ref (b 24), .int (m 25), .int (m 26), .int (m 27), .int (nI m1), .ref (b 29), .ref (b 30), .int (m 31), .int (m 32), .int (m 33), .int (m 34), .int (m 35), .ref (b 36), .ref (b 37), .int (nI zr), .ref (b 39), .ref (b 40), .int (nI rn), .int (m 42), .int (m 43), .ref (b 44), .ref (b 45), .ref (b 46), .ref (b 47)])), (b 29, .inl (g 0, 40, .inl MS))]) (wr := []) ⟨rfl, rfl⟩ (zk_rv (As := []) (rest := []) (q0 := 0) (ci := 8) Z ((ct_X8_cameMany l D g τ b (upd (upd (upd (upd (upd m 5 (nI d)) 6 (nI n)) 9 (nI ln)) 38 (nI zr)) 41 (nI rn)) m1 MS (by exact hm1)) sS.heap.size) hK hT hA G [0, 1] rfl (by decide) rfl rfl gmX8_count_X8_cameMany rfl dvX8_cameMany ⟨by decide, by decide⟩ rfl hl.1 rfl (Nat.le_of_ble_eq_true rfl) dX8_count_55 ⟨Nat.zero_le _, Nat.zero_le _⟩) hA G [0, 1] [] [0, 1] rfl rfl (by decide) (by decide) (by decide) (fun _ => rfl) (fun r_55 _ H locs w_55 G => ?_)
    obtain rfl : r_55 = nI (zm_cnt MS m1) := w_55
    exact zk_reti Z hR_ hlk hK hQ G () (by unfold zm_count; rw [if_neg (by decide), if_neg (by decide), if_pos rfl]) rfl dX8_count_58
  by_cases c1_3 : what = nI 3
  · subst c1_3
    refine lv_tableIn (tgt := 59) Z.1 Z.2.1 dX8_count_1 (by decide) (by decide) (by rfl) (by decide) ?_
    refine lv_aload_n Z.1 Z.2.1 dX8_count_59 rfl (lv_at hl 0 rfl) ?_
    refine zk_get (C := RX8) (T := TX8) (N := 48) (ci := 8) Z hK G hinX8 0 rfl rfl 9 (by decide) (List.mem_cons_of_mem _ wa8_99) rfl (v := .int (nI ln)) rfl dX8_count_60 ?_
    exact zk_reti Z hR_ hlk hK hQ G () (by unfold zm_count; rw [if_neg (by decide), if_neg (by decide), if_neg (by decide), if_pos rfl]) rfl dX8_count_63
  by_cases c1_4 : what = nI 4
  · subst c1_4
    refine lv_tableIn (tgt := 64) Z.1 Z.2.1 dX8_count_1 (by decide) (by decide) (by rfl) (by decide) ?_
    refine lv_aload_n Z.1 Z.2.1 dX8_count_64 rfl (lv_at hl 0 rfl) ?_
    refine zk_get (C := RX8) (T := TX8) (N := 48) (ci := 8) Z hK G hinX8 0 rfl rfl 5 (by decide) (List.mem_cons_of_mem _ wa8_35) rfl (v := .int (nI d)) rfl dX8_count_65 ?_
    exact zk_reti Z hR_ hlk hK hQ G () (by unfold zm_count; rw [if_neg (by decide), if_neg (by decide), if_neg (by decide), if_neg (by decide), if_pos rfl]) rfl dX8_count_68
  by_cases c1_5 : what = nI 5
  · subst c1_5
    refine lv_tableIn (tgt := 69) Z.1 Z.2.1 dX8_count_1 (by decide) (by decide) (by rfl) (by decide) ?_
    refine lv_aload_n Z.1 Z.2.1 dX8_count_69 rfl (lv_at hl 0 rfl) ?_
    refine zk_get (C := RX8) (T := TX8) (N := 48) (ci := 8) Z hK G hinX8 0 rfl rfl 38 (by decide) (List.mem_cons_of_mem _ wa8_259) rfl (v := .int (nI zr)) rfl dX8_count_70 ?_
    exact zk_reti Z hR_ hlk hK hQ G () (by unfold zm_count; rw [if_neg (by decide), if_neg (by decide), if_neg (by decide), if_neg (by decide), if_neg (by decide), if_pos rfl]) rfl dX8_count_73
  by_cases c1_6 : what = nI 6
  · subst c1_6
    refine lv_tableIn (tgt := 74) Z.1 Z.2.1 dX8_count_1 (by decide) (by decide) (by rfl) (by decide) ?_
    refine lv_aload_n Z.1 Z.2.1 dX8_count_74 rfl (lv_at hl 0 rfl) ?_
    refine zk_get (C := RX8) (T := TX8) (N := 48) (ci := 8) Z hK G hinX8 0 rfl rfl 41 (by decide) (List.mem_cons_of_mem _ wa8_265) rfl (v := .int (nI rn)) rfl dX8_count_75 ?_
    exact zk_reti Z hR_ hlk hK hQ G () (by unfold zm_count; rw [if_neg (by decide), if_neg (by decide), if_neg (by decide), if_neg (by decide), if_neg (by decide), if_neg (by decide), if_pos rfl]) rfl dX8_count_78
  have c1_0' : ¬ what.toInt = 0 := lv_neT c1_0 (by decide)
  have c1_1' : ¬ what.toInt = 1 := lv_neT c1_1 (by decide)
  have c1_2' : ¬ what.toInt = 2 := lv_neT c1_2 (by decide)
  have c1_3' : ¬ what.toInt = 3 := lv_neT c1_3 (by decide)
  have c1_4' : ¬ what.toInt = 4 := lv_neT c1_4 (by decide)
  have c1_5' : ¬ what.toInt = 5 := lv_neT c1_5 (by decide)
  have c1_6' : ¬ what.toInt = 6 := lv_neT c1_6 (by decide)
  refine lv_tableOut (tgt := 79) Z.1 Z.2.1 dX8_count_1 (by omega) (by decide) ?_
  refine lv_iconst (v := (-1)) Z.1 Z.2.1 dX8_count_79 (by decide +kernel) ?_
  exact zk_reti Z hR_ hlk hK hQ G () (by unfold zm_count; rw [if_neg c1_0, if_neg c1_1, if_neg c1_2, if_neg c1_3, if_neg c1_4, if_neg c1_5, if_neg c1_6]) rfl dX8_count_80
