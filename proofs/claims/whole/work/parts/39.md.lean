/-! The reference: worlds told, from rows; sends, images, shelves' shifts. -/
def zm_add (M : Nat → Nat) (n p q r : Nat) : Nat → Nat := zs_up (zs_up (zs_up M n p) (7 + n) q) (14 + n) r
def zm_wd (n : Nat) (M : Nat → Nat) (ps ring : Int32) : Nat × (Nat → Nat) := if (zt_wok ps ring && decide (n < 6)) = true then (n + 1, zm_add M n (ps.toInt.toNat / 100) (ps.toInt.toNat % 100) ring.toInt.toNat) else (n, M)
/-- how many come from a row of the reference's -/
def zm_cw (IT : Nat → Int64) (o len : Nat) : Nat → Nat → Nat → Nat
  | 0, _, _ => 0
  | f + 1, n, k => if k + 3 ≤ len ∧ n < 6 ∧ zm_one (IT (o + k)) (IT (o + k + 1)) (IT (o + k + 2)) = true then zm_cw IT o len f (n + 1) (k + 3) + 1 else 0
def zm_aw (IT : Nat → Int64) (M : Nat → Nat) (n k : Nat) : Nat → Nat → Nat
  | 0 => M
  | c + 1 => zm_add (zm_aw IT M n k c) (n + c) (IT (k + 3 * c)).toInt32.toInt.toNat (IT (k + 3 * c + 1)).toInt32.toInt.toNat (IT (k + 3 * c + 2)).toInt32.toInt.toNat
theorem zm_cw_y {IT : Nat → Int64} {o len f n k : Nat} (h1 : k + 3 ≤ len) (h2 : n < 6) (h3 : zm_one (IT (o + k)) (IT (o + k + 1)) (IT (o + k + 2)) = true) : zm_cw IT o len (f + 1) n k = zm_cw IT o len f (n + 1) (k + 3) + 1 := if_pos ⟨h1, h2, h3⟩
theorem zm_cw_n {IT : Nat → Int64} {o len f n k : Nat} (h : ¬ (k + 3 ≤ len ∧ n < 6 ∧ zm_one (IT (o + k)) (IT (o + k + 1)) (IT (o + k + 2)) = true)) : zm_cw IT o len (f + 1) n k = 0 := if_neg h
theorem zm_l_nat {x : Int64} {a c : Nat} (ha : a < 2 ^ 31) (hc : c < 2 ^ 31) (h1 : ¬ x < lN a) (h2 : ¬ lN c < x) : ∃ j : Nat, x = lN j ∧ a ≤ j ∧ j ≤ c := by
  rw [zb_ltL, lN_toInt ha] at h1
  rw [zb_ltL, lN_toInt hc] at h2
  refine ⟨x.toInt.toNat, ?_, by omega, by omega⟩
  apply Int64.toInt_inj.mp
  rw [lN_toInt (by omega)]; omega
theorem zm_one_ex {x y z : Int64} (h : zm_one x y z = true) : ∃ p q r : Nat, x = lN p ∧ y = lN q ∧ z = lN r ∧ 1 ≤ p ∧ p ≤ 12 ∧ q < p ∧ 1 ≤ r ∧ r ≤ 9 := by
  simp only [zm_one, Bool.and_eq_true] at h
  obtain ⟨⟨h1, h2⟩, h3⟩ := h
  obtain ⟨a1, a2⟩ := zm_in_le h1
  obtain ⟨p, rfl, hp1, hp2⟩ := zm_l_nat (by decide) (by decide) a1 a2
  rw [lN_sub hp1] at h2
  obtain ⟨b1, b2⟩ := zm_in_le h2
  obtain ⟨q, rfl, -, hq2⟩ := zm_l_nat (by decide) (by omega) b1 b2
  obtain ⟨d1, d2⟩ := zm_in_le h3
  obtain ⟨r, rfl, hr1, hr2⟩ := zm_l_nat (by decide) (by decide) d1 d2
  exact ⟨p, q, r, rfl, rfl, rfl, hp1, hp2, by omega, hr1, hr2⟩
theorem zm_len3 {len i c : Nat} (hl : len ≤ 60) (hi : i < 2 ^ 31) (hc : c ≤ 6) : nI i ≤ nI len - nI 3 - nI (3 * c) ↔ i + 3 * c + 3 ≤ len := by
  rw [Int32.sub_sub, nI_add, Int32.le_iff_toInt_le, pk_sub_toInt (by omega) (by omega), nI_toInt hi]; omega
def zm_wsOk (x nn : Int32) : Bool := zb_w 6 x && zm_in nn.toInt64 (lN 1) (lN 6)
def zm_wsC (IT : Nat → Int64) (SH : Nat → Int32) (MN : Nat → Nat) (n : Nat) (x i nn : Int32) : Nat := if (zm_wsOk x nn && (decide (SH x.toInt.toNat = 50) && decide (¬ i < 0))) = true then zm_cw IT (60 * x.toInt.toNat) (MN x.toInt.toNat) nn.toInt.toNat n i.toInt.toNat else 0
def zm_wsA (IT : Nat → Int64) (SH : Nat → Int32) (MN : Nat → Nat) (n : Nat) (x i nn : Int32) : Int32 := if zm_wsOk x nn = true then (if 0 ≤ SH x.toInt.toNat ∧ ¬ SH x.toInt.toNat = 50 then -12 else nI (zm_wsC IT SH MN n x i nn)) else -1
def zm_un : Nat → Nat → Nat → Bool | 0, _, _ => false | f + 1, x, k => if x = k then true else if x = 0 then false else zm_un f (zm_ab x) k
theorem zm_ab_lt {x : Nat} (h : 0 < x) (h8 : x < 8) : zm_ab x < x := by
  have key : ∀ x, x < 8 → 0 < x → zm_ab x < x := by decide
  exact key x h8 h
def zm_taken (SH : Nat → Int32) (KD : Nat → Nat) (x k : Int32) : Int32 := if (zb_w 6 x && zr_kind k) = true then (if SH x.toInt.toNat < 0 then -11 else if 50 ≤ SH x.toInt.toNat then -12 else if zm_un 8 (KD (SH x.toInt.toNat).toInt.toNat) k.toInt.toNat = true then nI (KD (SH x.toInt.toNat).toInt.toNat) else -12) else -1
def zm_shr (SH : Nat → Int32) (MN : Nat → Nat) (x x2 i j nn : Int32) : Int32 := if (zb_w 6 x && zb_w 6 x2) = true then (if SH x.toInt.toNat < 0 ∨ SH x2.toInt.toNat < 0 then -11 else if SH x.toInt.toNat < 50 ∨ ¬ SH x.toInt.toNat = SH x2.toInt.toNat then -12 else if (zh_pl (MN x.toInt.toNat) i nn && zh_pl (MN x2.toInt.toNat) j nn) = true then nn else -13) else -1
def zm_sho (SH : Nat → Int32) (MN : Nat → Nat) (x x2 i j nn : Int32) : Bool := (zb_w 6 x && zb_w 6 x2) && (decide (¬ (SH x.toInt.toNat < 0 ∨ SH x2.toInt.toNat < 0)) && (decide (¬ (SH x.toInt.toNat < 50 ∨ ¬ SH x.toInt.toNat = SH x2.toInt.toNat)) && (zh_pl (MN x.toInt.toNat) i nn && zh_pl (MN x2.toInt.toNat) j nn)))
theorem zm_cpy_s (IT : Nat → Int64) (sp dp k : Nat) : vp_updL (va_cpy IT IT sp dp k) (dp + k) (IT (sp + k)) = va_cpy IT IT sp dp (k + 1) := funext fun q => by
  simp only [vp_updL, va_cpy]
  by_cases h1 : q = dp + k
  · subst h1; rw [if_pos rfl, if_pos (by omega), show sp + (dp + k - dp) = sp + k by omega]
  · rw [if_neg h1]
    by_cases h2 : dp ≤ q ∧ q < dp + k
    · rw [if_pos h2, if_pos (by omega)]
    · rw [if_neg h2, if_neg (by omega)]
theorem zm_cpy_0 (IT : Nat → Int64) (sp dp : Nat) : va_cpy IT IT sp dp 0 = IT := funext fun q => by
  simp only [va_cpy]; rw [if_neg (by omega)]
theorem zh_pl_n {len i n : Nat} (hl : len ≤ 60) (hi : i < 2 ^ 31) (hn : n < 2 ^ 31) : zh_pl len (nI i) (nI n) = decide (i ≤ len ∧ n ≤ len - i) := by
  by_cases h : i ≤ len
  · have e : zh_pl len (nI i) (nI n) = decide (¬ nI (len - i) < nI n) := by
      unfold zh_pl
      rw [decide_eq_true (nI_pos hi), decide_eq_true (nI_pos hn), decide_eq_true (show ¬ nI len < nI i from fun q => by have := zk_lt (by omega) hi q; omega), pk_sub h]; rfl
    rw [e]; apply decide_eq_decide.mpr
    rw [nI_ltI (by omega) hn]; omega
  · have e : zh_pl len (nI i) (nI n) = false := by
      unfold zh_pl
      rw [decide_eq_false (show ¬ ¬ nI len < nI i from not_not_intro ((nI_ltI (by omega) hi).mpr (by omega)))]
      simp
    rw [e]; exact (decide_eq_false (fun q => h q.1)).symm
theorem zm_le_sub {len i n : Nat} (hl : len ≤ 60) (hi : i < 2 ^ 31) (hn : n < 2 ^ 31) : nI i ≤ nI len - nI n ↔ (i ≤ len ∧ n ≤ len - i) := by
  have e : (nI len - nI n).toInt = (len : Int) - n := by
    rw [Int32.toInt_sub, nI_toInt (by omega), nI_toInt hn]
    exact Int.bmod_eq_of_le (by omega) (by omega)
  rw [Int32.le_iff_toInt_le, e, nI_toInt hi]; omega

abbrev rm_X8_world : Room := { frames := 2, cells := 0, slots := 0, locals := 50 }
theorem dvX8_world : zk_dv yX8_world RX8 2 := by decide +kernel
theorem gmX8_world_X8_isOne : GoodIn wmX8_world (va_wsS RX8 111 yX8_isOne wmX8_isOne) := goodIn_app (wa8_w (List.forall_mem_cons.mpr ⟨wa8_55, List.forall_mem_cons.mpr ⟨wa8_56, List.forall_mem_cons.mpr ⟨wa8_43, fun _ h => absurd h List.not_mem_nil⟩⟩⟩)) (wa8_sub wa8_50)
theorem gmX8_world_X8_adds : GoodIn wmX8_world (wsV RX8 114 RX8 yX8_adds wmX8_adds) := goodIn_app (wa8_w (List.forall_mem_cons.mpr ⟨wa8_57, List.forall_mem_cons.mpr ⟨wa8_58, List.forall_mem_cons.mpr ⟨wa8_59, List.forall_mem_cons.mpr ⟨wa8_43, fun _ h => absurd h List.not_mem_nil⟩⟩⟩⟩)) (wa8_sub wa8_53)
set_option maxRecDepth 100000 in
set_option maxHeartbeats 400000 in
theorem ct_X8_world (l : Launch) (D : va_G) (g : Nat → ClassId) (τ : Nat → Nat) (b : Nat → Nat) (m : Nat → Int32) (n : Nat) (M : Nat → Nat) (ps : Int32) (ring : Int32) (hn : n ≤ 6) : zk_MI l D g τ yX8_world wmX8_world rm_X8_world [.ref (b 100), .int ps, .int ring] [(b 100, .inr (8, [.ref (b 0), .ref (b 1), .ref (b 2), .ref (b 3), .int (m 4), .int (m 5), .int (nI n), .int (m 7), .ref (b 8), .int (m 9), .ref (b 10), .int (m 11), .int (m 12), .int (m 13), .int (m 14), .int (m 15), .int (m 16), .ref (b 17), .ref (b 18), .ref (b 19), .ref (b 20), .ref (b 21), .ref (b 22), .ref (b 23), .ref (b 24), .int (m 25), .int (m 26), .int (m 27), .int (m 28), .ref (b 29), .ref (b 30), .int (m 31), .int (m 32), .int (m 33), .int (m 34), .int (m 35), .ref (b 36), .ref (b 37), .int (m 38), .ref (b 39), .ref (b 40), .int (m 41), .int (m 42), .int (m 43), .ref (b 44), .ref (b 45), .ref (b 46), .ref (b 47)])), (b 0, .inl (g 0, 23, .inl (fun i => nI (M i))))] (fun (r : Int32) (uu : Nat × (Nat → Nat)) => (r = zu_world n ps ring) ∧ ((uu.1, uu.2) = zm_wd n M ps ring)) (fun (uu : Nat × (Nat → Nat)) => [(b 100, .inr (8, [.ref (b 0), .ref (b 1), .ref (b 2), .ref (b 3), .int (m 4), .int (m 5), .int (nI uu.1), .int (m 7), .ref (b 8), .int (m 9), .ref (b 10), .int (m 11), .int (m 12), .int (m 13), .int (m 14), .int (m 15), .int (m 16), .ref (b 17), .ref (b 18), .ref (b 19), .ref (b 20), .ref (b 21), .ref (b 22), .ref (b 23), .ref (b 24), .int (m 25), .int (m 26), .int (m 27), .int (m 28), .ref (b 29), .ref (b 30), .int (m 31), .int (m 32), .int (m 33), .int (m 34), .int (m 35), .ref (b 36), .ref (b 37), .int (m 38), .ref (b 39), .ref (b 40), .int (m 41), .int (m 42), .int (m 43), .ref (b 44), .ref (b 45), .ref (b 46), .ref (b 47)])), (b 0, .inl (g 0, 23, .inl (fun i => nI (uu.2 i))))]) := by
  refine zk_of (av := [.ref (b 100), .int ps, .int ring]) (W0 := [(b 100, .inr (8, [.ref (b 0), .ref (b 1), .ref (b 2), .ref (b 3), .int (m 4), .int (m 5), .int (nI n), .int (m 7), .ref (b 8), .int (m 9), .ref (b 10), .int (m 11), .int (m 12), .int (m 13), .int (m 14), .int (m 15), .int (m 16), .ref (b 17), .ref (b 18), .ref (b 19), .ref (b 20), .ref (b 21), .ref (b 22), .ref (b 23), .ref (b 24), .int (m 25), .int (m 26), .int (m 27), .int (m 28), .ref (b 29), .ref (b 30), .int (m 31), .int (m 32), .int (m 33), .int (m 34), .int (m 35), .ref (b 36), .ref (b 37), .int (m 38), .ref (b 39), .ref (b 40), .int (m 41), .int (m 42), .int (m 43), .ref (b 44), .ref (b 45), .ref (b 46), .ref (b 47)])), (b 0, .inl (g 0, 23, .inl (fun i => nI (M i))))]) (y := yX8_world) (wd := wmX8_world) (Qc := fun A => va_Qi (fun (r : Int32) (uu : Nat × (Nat → Nat)) => (r = zu_world n ps ring) ∧ ((uu.1, uu.2) = zm_wd n M ps ring)) (zk_B D g A (fun (uu : Nat × (Nat → Nat)) => [(b 100, .inr (8, [.ref (b 0), .ref (b 1), .ref (b 2), .ref (b 3), .int (m 4), .int (m 5), .int (nI uu.1), .int (m 7), .ref (b 8), .int (m 9), .ref (b 10), .int (m 11), .int (m 12), .int (m 13), .int (m 14), .int (m 15), .int (m 16), .ref (b 17), .ref (b 18), .ref (b 19), .ref (b 20), .ref (b 21), .ref (b 22), .ref (b 23), .ref (b 24), .int (m 25), .int (m 26), .int (m 27), .int (m 28), .ref (b 29), .ref (b 30), .int (m 31), .int (m 32), .int (m 33), .int (m 34), .int (m 35), .ref (b 36), .ref (b 37), .int (m 38), .ref (b 39), .ref (b 40), .int (m 41), .int (m 42), .int (m 43), .ref (b 44), .ref (b 45), .ref (b 46), .ref (b 47)])), (b 0, .inl (g 0, 23, .inl (fun i => nI (uu.2 i))))])) A) (cc := cX8_world) (maxL := 3) (ret := (some .int)) (own := RX8) (by decide) rfl rfl (Nat.le_of_ble_eq_true rfl) ?_
  intro pP eE sS mM args below meth cC aA ls qQ Z hR_ hlk hnm hK hT hA hQ G hl
  have hinX8 : ∀ w ∈ u_ws RX8 TX8 48, w ∈ wmX8_world := wa8_in
  refine lv_iload_n Z.1 Z.2.1 dX8_world_0 rfl (lv_at hl 1 rfl) ?_
  refine lv_if_lt (tgt := 22) Z.1 Z.2.1 dX8_world_1 (by decide) (fun c1 => ?_) (fun c1 => ?_)
  · have c1 : ps < 0 := c1
    have hno9 := zt_wok_neg (ring := ring) c1
    refine lv_iconst (v := (-1)) Z.1 Z.2.1 dX8_world_22 (by decide +kernel) ?_
    exact zk_reti Z hR_ hlk hK hQ G (n, M) ⟨(by simp only [zu_world]; rw [if_neg (by rw [hno9]; decide)]), (by unfold zm_wd; rw [if_neg (by rw [hno9]; simp)])⟩ rfl dX8_world_23
  have c1 : ¬ ps < 0 := c1
  obtain ⟨j, hj, rfl⟩ := nI_of c1
  have e19 : zm_one (lN (j / 100)) (lN (j % 100)) ring.toInt64 = zs_isW (nI (j / 100)) (nI (j % 100)) ring := by rw [← nI_l (show j / 100 < 2 ^ 31 by omega), ← nI_l (show j % 100 < 2 ^ 31 by omega), zm_one_w]
  refine lv_iload_n Z.1 Z.2.1 dX8_world_4 rfl (lv_at hl 1 rfl) ?_
  refine lv_bipush (v := nI 100) Z.1 Z.2.1 dX8_world_5 (by decide +kernel) ?_
  refine zk_idiv Z dX8_world_7 (nI_ne0 (by omega) (by omega)) (z := nI (j / 100)) (pk_div (by omega) (by omega) (by omega)) ?_
  refine lv_i2l (v := lN (j / 100)) Z.1 Z.2.1 dX8_world_8 (nI_l (by omega)) ?_
  refine lv_iload_n Z.1 Z.2.1 dX8_world_9 rfl (lv_at hl 1 rfl) ?_
  refine lv_bipush (v := nI 100) Z.1 Z.2.1 dX8_world_10 (by decide +kernel) ?_
  refine zk_irem Z dX8_world_12 (nI_ne0 (by omega) (by omega)) (z := nI (j % 100)) (pk_rem (by omega) (by omega) (by omega)) ?_
  refine lv_i2l (v := lN (j % 100)) Z.1 Z.2.1 dX8_world_13 (nI_l (by omega)) ?_
  refine lv_iload_n Z.1 Z.2.1 dX8_world_14 rfl (lv_at hl 2 rfl) ?_
  refine lv_i2l (v := ring.toInt64) Z.1 Z.2.1 dX8_world_15 rfl ?_
  refine zk_ci (WF := fun (_ : Unit) => [(b 100, .inr (8, [.ref (b 0), .ref (b 1), .ref (b 2), .ref (b 3), .int (m 4), .int (m 5), .int (nI n), .int (m 7), .ref (b 8), .int (m 9), .ref (b 10), .int (m 11), .int (m 12), .int (m 13), .int (m 14), .int (m 15), .int (m 16), .ref (b 17), .ref (b 18), .ref (b 19), .ref (b 20), .ref (b 21), .ref (b 22), .ref (b 23), .ref (b 24), .int (m 25), .int (m 26), .int (m 27), .int (m 28), .ref (b 29), .ref (b 30), .int (m 31), .int (m 32), .int (m 33), .int (m 34), .int (m 35), .ref (b 36), .ref (b 37), .int (m 38), .ref (b 39), .ref (b 40), .int (m 41), .int (m 42), .int (m 43), .ref (b 44), .ref (b 45), .ref (b 46), .ref (b 47)])), (b 0, .inl (g 0, 23, .inl (fun i => nI (M i))))]) (wr := [(b 100, .inr (8, [.ref (b 0), .ref (b 1), .ref (b 2), .ref (b 3), .int (m 4), .int (m 5), .int (nI n), .int (m 7), .ref (b 8), .int (m 9), .ref (b 10), .int (m 11), .int (m 12), .int (m 13), .int (m 14), .int (m 15), .int (m 16), .ref (b 17), .ref (b 18), .ref (b 19), .ref (b 20), .ref (b 21), .ref (b 22), .ref (b 23), .ref (b 24), .int (m 25), .int (m 26), .int (m 27), .int (m 28), .ref (b 29), .ref (b 30), .int (m 31), .int (m 32), .int (m 33), .int (m 34), .int (m 35), .ref (b 36), .ref (b 37), .int (m 38), .ref (b 39), .ref (b 40), .int (m 41), .int (m 42), .int (m 43), .ref (b 44), .ref (b 45), .ref (b 46), .ref (b 47)])), (b 0, .inl (g 0, 23, .inl (fun i => nI (M i))))]) ⟨rfl, rfl⟩ (zk_rs (As := [.long (lN (j / 100)), .long (lN (j % 100)), .long ring.toInt64]) (rest := []) Z ((ct_X8_isOne l D g τ (lN (j / 100)) (lN (j % 100)) ring.toInt64 ) sS.heap.size) hK hT hA G [] rfl (by decide) gmX8_world_X8_isOne rfl dvX8_isOne ⟨by decide, by decide⟩ rfl hl.1 rfl (Nat.le_of_ble_eq_true rfl) dX8_world_16 ⟨Nat.zero_le _, Nat.zero_le _⟩) hA G [] [0, 1] [0, 1] rfl rfl (by decide) (by decide) (by decide) (fun _ => rfl) (fun r_16 _ H locs w_16 G => ?_)
  obtain rfl : r_16 = zk_b (zm_one (lN (j / 100)) (lN (j % 100)) ring.toInt64) := w_16
  refine lv_if_ne (tgt := 24) Z.1 Z.2.1 dX8_world_19 (by decide) (fun c19 => ?_) (fun c19 => ?_)
  · have c19 : (zm_one (lN (j / 100)) (lN (j % 100)) ring.toInt64) = true := zk_b1.mp c19
    have c19w := e19.symm.trans c19
    have hok9 := (zt_wok_n (ring := ring) hj).trans c19w
    obtain ⟨w1, w2, w3, r, rfl, w4, w5⟩ := zs_isW_n (by omega) (by omega) c19w
    refine lv_aload_n Z.1 Z.2.1 dX8_world_24 rfl (lv_at hl 0 rfl) ?_
    refine zk_get (C := RX8) (T := TX8) (N := 48) (ci := 8) Z hK G hinX8 0 rfl rfl 6 (by decide) (List.mem_cons_of_mem _ wa8_40) rfl (v := .int (nI n)) rfl dX8_world_25 ?_
    refine lv_bipush (v := nI 6) Z.1 Z.2.1 dX8_world_28 (by decide +kernel) ?_
    refine lv_icmp_ne (tgt := 36) Z.1 Z.2.1 dX8_world_30 (by decide) (fun c30 => ?_) (fun c30 => ?_)
    · have c30 : n ≠ 6 := zk_neq (by omega) (by omega) c30
      refine lv_aload_n Z.1 Z.2.1 dX8_world_36 rfl (lv_at hl 0 rfl) ?_
      refine lv_iload_n Z.1 Z.2.1 dX8_world_37 rfl (lv_at hl 1 rfl) ?_
      refine lv_bipush (v := nI 100) Z.1 Z.2.1 dX8_world_38 (by decide +kernel) ?_
      refine zk_idiv Z dX8_world_40 (nI_ne0 (by omega) (by omega)) (z := nI (j / 100)) (pk_div (by omega) (by omega) (by omega)) ?_
      refine lv_iload_n Z.1 Z.2.1 dX8_world_41 rfl (lv_at hl 1 rfl) ?_
      refine lv_bipush (v := nI 100) Z.1 Z.2.1 dX8_world_42 (by decide +kernel) ?_
      refine zk_irem Z dX8_world_44 (nI_ne0 (by omega) (by omega)) (z := nI (j % 100)) (pk_rem (by omega) (by omega) (by omega)) ?_
      refine lv_iload_n Z.1 Z.2.1 dX8_world_45 rfl (lv_at hl 2 rfl) ?_
      refine zk_cv (WF := fun (_ : Unit) => [(b 100, .inr (8, [.ref (b 0), .ref (b 1), .ref (b 2), .ref (b 3), .int (m 4), .int (m 5), .int (nI (n + 1)), .int (m 7), .ref (b 8), .int (m 9), .ref (b 10), .int (m 11), .int (m 12), .int (m 13), .int (m 14), .int (m 15), .int (m 16), .ref (b 17), .ref (b 18), .ref (b 19), .ref (b 20), .ref (b 21), .ref (b 22), .ref (b 23), .ref (b 24), .int (m 25), .int (m 26), .int (m 27), .int (m 28), .ref (b 29), .ref (b 30), .int (m 31), .int (m 32), .int (m 33), .int (m 34), .int (m 35), .ref (b 36), .ref (b 37), .int (m 38), .ref (b 39), .ref (b 40), .int (m 41), .int (m 42), .int (m 43), .ref (b 44), .ref (b 45), .ref (b 46), .ref (b 47)])), (b 0, .inl (g 0, 23, .inl (fun i => nI (zs_up (zs_up (zs_up M n (j / 100)) (7 + n) (j % 100)) (14 + n) r i))))]) (wr := []) ⟨rfl, rfl⟩ (zk_rv (As := [.int (nI (j / 100)), .int (nI (j % 100)), .int (nI r)]) (rest := []) (q0 := 0) (ci := 8) Z ((ct_X8_adds l D g τ b m n M (j / 100) (j % 100) r (by omega)) H.size) hK hT hA G [0, 1] rfl (by decide) rfl rfl gmX8_world_X8_adds rfl dvX8_adds ⟨by decide, by decide⟩ rfl hl.1 rfl (Nat.le_of_ble_eq_true rfl) dX8_world_46 ⟨Nat.zero_le _, Nat.zero_le _⟩) hA G [0, 1] [] [0, 1] rfl rfl (by decide) (by decide) (by decide) (fun _ => rfl) (fun _ H locs w_46 G => ?_)
      refine lv_aload_n Z.1 Z.2.1 dX8_world_49 rfl (lv_at hl 0 rfl) ?_
      refine zk_get (C := RX8) (T := TX8) (N := 48) (ci := 8) Z hK G hinX8 0 rfl rfl 6 (by decide) (List.mem_cons_of_mem _ wa8_40) rfl (v := .int (nI (n + 1))) rfl dX8_world_50 ?_
      refine lv_iconst (v := nI 1) Z.1 Z.2.1 dX8_world_53 (by decide +kernel) ?_
      refine zk_isub Z dX8_world_54 (z := nI ((n + 1) - 1)) (pk_sub (by omega)) ?_
      have h6 : n < 6 := by omega
      exact zk_reti Z hR_ hlk hK hQ G (n + 1, zm_add M n (j / 100) (j % 100) r) ⟨(by simp only [zu_world]; rw [if_pos hok9, if_neg (by omega)]; rfl), (by unfold zm_wd; rw [if_pos (by rw [hok9, decide_eq_true h6]; rfl), zb_nat hj, zb_nat (show r < 2 ^ 31 by omega)])⟩ rfl dX8_world_55
    have c30 : n = 6 := zk_eq (by omega) (by omega) c30
    refine lv_bipush (v := (-3)) Z.1 Z.2.1 dX8_world_33 (by decide +kernel) ?_
    exact zk_reti Z hR_ hlk hK hQ G (n, M) ⟨(by simp only [zu_world]; rw [if_pos hok9, if_pos (by omega)]), (by unfold zm_wd; rw [if_neg (by rw [decide_eq_false (show ¬ n < 6 by omega)]; simp)])⟩ rfl dX8_world_35
  have c19 : (zm_one (lN (j / 100)) (lN (j % 100)) ring.toInt64) = false := zk_b0.mp c19
  have hno9 := (zt_wok_n (ring := ring) hj).trans (e19.symm.trans c19)
  refine lv_iconst (v := (-1)) Z.1 Z.2.1 dX8_world_22 (by decide +kernel) ?_
  exact zk_reti Z hR_ hlk hK hQ G (n, M) ⟨(by simp only [zu_world]; rw [if_neg (by rw [hno9]; decide)]), (by unfold zm_wd; rw [if_neg (by rw [hno9]; simp)])⟩ rfl dX8_world_23

abbrev rm_X8_worlds : Room := { frames := 2, cells := 0, slots := 0, locals := 50 }
theorem dvX8_worlds : zk_dv yX8_worlds RX8 3 := by decide +kernel
theorem gmX8_worlds_X8_isShelf : GoodIn wmX8_worlds (va_wsS RX8 118 yX8_isShelf wmX8_isShelf) := goodIn_app (wa8_w (List.forall_mem_cons.mpr ⟨wa8_62, List.forall_mem_cons.mpr ⟨wa8_63, List.forall_mem_cons.mpr ⟨wa8_43, fun _ h => absurd h List.not_mem_nil⟩⟩⟩)) (wa8_sub wa8_64)
theorem gmX8_worlds_X8_within : GoodIn wmX8_worlds (va_wsS RX8 97 yX8_within wmX8_within) := goodIn_app (wa8_w (List.forall_mem_cons.mpr ⟨wa8_41, List.forall_mem_cons.mpr ⟨wa8_42, List.forall_mem_cons.mpr ⟨wa8_43, fun _ h => absurd h List.not_mem_nil⟩⟩⟩)) (wa8_sub wa8_0)
theorem gmX8_worlds_X8_isOne : GoodIn wmX8_worlds (va_wsS RX8 111 yX8_isOne wmX8_isOne) := goodIn_app (wa8_w (List.forall_mem_cons.mpr ⟨wa8_55, List.forall_mem_cons.mpr ⟨wa8_56, List.forall_mem_cons.mpr ⟨wa8_43, fun _ h => absurd h List.not_mem_nil⟩⟩⟩)) (wa8_sub wa8_50)
theorem gmX8_worlds_X8_adds : GoodIn wmX8_worlds (wsV RX8 114 RX8 yX8_adds wmX8_adds) := goodIn_app (wa8_w (List.forall_mem_cons.mpr ⟨wa8_57, List.forall_mem_cons.mpr ⟨wa8_58, List.forall_mem_cons.mpr ⟨wa8_59, List.forall_mem_cons.mpr ⟨wa8_43, fun _ h => absurd h List.not_mem_nil⟩⟩⟩⟩)) (wa8_sub wa8_53)
set_option maxRecDepth 100000 in
set_option maxHeartbeats 400000 in
theorem ct_X8_worlds (l : Launch) (D : va_G) (g : Nat → ClassId) (τ : Nat → Nat) (b : Nat → Nat) (m : Nat → Int32) (n : Nat) (M : Nat → Nat) (SH : Nat → Int32) (MN : Nat → Nat) (IT : Nat → Int64) (x : Int32) (i9 : Int32) (nn : Int32) (hn6 : n ≤ 6) (hmn : ∀ i, MN i ≤ 60) : zk_MI l D g τ yX8_worlds wmX8_worlds rm_X8_worlds [.ref (b 100), .int x, .int i9, .int nn] [(b 100, .inr (8, [.ref (b 0), .ref (b 1), .ref (b 2), .ref (b 3), .int (m 4), .int (m 5), .int (nI n), .int (m 7), .ref (b 8), .int (m 9), .ref (b 10), .int (m 11), .int (m 12), .int (m 13), .int (m 14), .int (m 15), .int (m 16), .ref (b 17), .ref (b 18), .ref (b 19), .ref (b 20), .ref (b 21), .ref (b 22), .ref (b 23), .ref (b 24), .int (m 25), .int (m 26), .int (m 27), .int (m 28), .ref (b 29), .ref (b 30), .int (m 31), .int (m 32), .int (m 33), .int (m 34), .int (m 35), .ref (b 36), .ref (b 37), .int (m 38), .ref (b 39), .ref (b 40), .int (m 41), .int (m 42), .int (m 43), .ref (b 44), .ref (b 45), .ref (b 46), .ref (b 47)])), (b 0, .inl (g 0, 23, .inl (fun i => nI (M i)))), (b 44, .inl (g 0, 6, .inl SH)), (b 45, .inl (g 0, 6, .inl (fun i => nI (MN i)))), (b 46, .inl (g 1, 360, .inr (.inl IT)))] (fun (r : Int32) (uu : Nat × (Nat → Nat)) => (r = zm_wsA IT SH MN n x i9 nn) ∧ ((uu.1, uu.2) = (n + (zm_wsC IT SH MN n x i9 nn), zm_aw IT M n (60 * x.toInt.toNat + i9.toInt.toNat) (zm_wsC IT SH MN n x i9 nn)))) (fun (uu : Nat × (Nat → Nat)) => [(b 100, .inr (8, [.ref (b 0), .ref (b 1), .ref (b 2), .ref (b 3), .int (m 4), .int (m 5), .int (nI uu.1), .int (m 7), .ref (b 8), .int (m 9), .ref (b 10), .int (m 11), .int (m 12), .int (m 13), .int (m 14), .int (m 15), .int (m 16), .ref (b 17), .ref (b 18), .ref (b 19), .ref (b 20), .ref (b 21), .ref (b 22), .ref (b 23), .ref (b 24), .int (m 25), .int (m 26), .int (m 27), .int (m 28), .ref (b 29), .ref (b 30), .int (m 31), .int (m 32), .int (m 33), .int (m 34), .int (m 35), .ref (b 36), .ref (b 37), .int (m 38), .ref (b 39), .ref (b 40), .int (m 41), .int (m 42), .int (m 43), .ref (b 44), .ref (b 45), .ref (b 46), .ref (b 47)])), (b 0, .inl (g 0, 23, .inl (fun i => nI (uu.2 i)))), (b 44, .inl (g 0, 6, .inl SH)), (b 45, .inl (g 0, 6, .inl (fun i => nI (MN i)))), (b 46, .inl (g 1, 360, .inr (.inl IT)))]) := by
  refine zk_of (av := [.ref (b 100), .int x, .int i9, .int nn]) (W0 := [(b 100, .inr (8, [.ref (b 0), .ref (b 1), .ref (b 2), .ref (b 3), .int (m 4), .int (m 5), .int (nI n), .int (m 7), .ref (b 8), .int (m 9), .ref (b 10), .int (m 11), .int (m 12), .int (m 13), .int (m 14), .int (m 15), .int (m 16), .ref (b 17), .ref (b 18), .ref (b 19), .ref (b 20), .ref (b 21), .ref (b 22), .ref (b 23), .ref (b 24), .int (m 25), .int (m 26), .int (m 27), .int (m 28), .ref (b 29), .ref (b 30), .int (m 31), .int (m 32), .int (m 33), .int (m 34), .int (m 35), .ref (b 36), .ref (b 37), .int (m 38), .ref (b 39), .ref (b 40), .int (m 41), .int (m 42), .int (m 43), .ref (b 44), .ref (b 45), .ref (b 46), .ref (b 47)])), (b 0, .inl (g 0, 23, .inl (fun i => nI (M i)))), (b 44, .inl (g 0, 6, .inl SH)), (b 45, .inl (g 0, 6, .inl (fun i => nI (MN i)))), (b 46, .inl (g 1, 360, .inr (.inl IT)))]) (y := yX8_worlds) (wd := wmX8_worlds) (Qc := fun A => va_Qi (fun (r : Int32) (uu : Nat × (Nat → Nat)) => (r = zm_wsA IT SH MN n x i9 nn) ∧ ((uu.1, uu.2) = (n + (zm_wsC IT SH MN n x i9 nn), zm_aw IT M n (60 * x.toInt.toNat + i9.toInt.toNat) (zm_wsC IT SH MN n x i9 nn)))) (zk_B D g A (fun (uu : Nat × (Nat → Nat)) => [(b 100, .inr (8, [.ref (b 0), .ref (b 1), .ref (b 2), .ref (b 3), .int (m 4), .int (m 5), .int (nI uu.1), .int (m 7), .ref (b 8), .int (m 9), .ref (b 10), .int (m 11), .int (m 12), .int (m 13), .int (m 14), .int (m 15), .int (m 16), .ref (b 17), .ref (b 18), .ref (b 19), .ref (b 20), .ref (b 21), .ref (b 22), .ref (b 23), .ref (b 24), .int (m 25), .int (m 26), .int (m 27), .int (m 28), .ref (b 29), .ref (b 30), .int (m 31), .int (m 32), .int (m 33), .int (m 34), .int (m 35), .ref (b 36), .ref (b 37), .int (m 38), .ref (b 39), .ref (b 40), .int (m 41), .int (m 42), .int (m 43), .ref (b 44), .ref (b 45), .ref (b 46), .ref (b 47)])), (b 0, .inl (g 0, 23, .inl (fun i => nI (uu.2 i)))), (b 44, .inl (g 0, 6, .inl SH)), (b 45, .inl (g 0, 6, .inl (fun i => nI (MN i)))), (b 46, .inl (g 1, 360, .inr (.inl IT)))])) A) (cc := cX8_worlds) (maxL := 7) (ret := (some .int)) (own := RX8) (by decide) rfl rfl (Nat.le_of_ble_eq_true rfl) ?_
  intro pP eE sS mM args below meth cC aA ls qQ Z hR_ hlk hnm hK hT hA hQ G hl
  have hinX8 : ∀ w ∈ u_ws RX8 TX8 48, w ∈ wmX8_worlds := wa8_in
  refine lv_iload_n Z.1 Z.2.1 dX8_worlds_0 rfl (lv_at hl 1 rfl) ?_
  refine zk_ci (WF := fun (_ : Unit) => [(b 100, .inr (8, [.ref (b 0), .ref (b 1), .ref (b 2), .ref (b 3), .int (m 4), .int (m 5), .int (nI n), .int (m 7), .ref (b 8), .int (m 9), .ref (b 10), .int (m 11), .int (m 12), .int (m 13), .int (m 14), .int (m 15), .int (m 16), .ref (b 17), .ref (b 18), .ref (b 19), .ref (b 20), .ref (b 21), .ref (b 22), .ref (b 23), .ref (b 24), .int (m 25), .int (m 26), .int (m 27), .int (m 28), .ref (b 29), .ref (b 30), .int (m 31), .int (m 32), .int (m 33), .int (m 34), .int (m 35), .ref (b 36), .ref (b 37), .int (m 38), .ref (b 39), .ref (b 40), .int (m 41), .int (m 42), .int (m 43), .ref (b 44), .ref (b 45), .ref (b 46), .ref (b 47)])), (b 0, .inl (g 0, 23, .inl (fun i => nI (M i)))), (b 44, .inl (g 0, 6, .inl SH)), (b 45, .inl (g 0, 6, .inl (fun i => nI (MN i)))), (b 46, .inl (g 1, 360, .inr (.inl IT)))]) (wr := [(b 100, .inr (8, [.ref (b 0), .ref (b 1), .ref (b 2), .ref (b 3), .int (m 4), .int (m 5), .int (nI n), .int (m 7), .ref (b 8), .int (m 9), .ref (b 10), .int (m 11), .int (m 12), .int (m 13), .int (m 14), .int (m 15), .int (m 16), .ref (b 17), .ref (b 18), .ref (b 19), .ref (b 20), .ref (b 21), .ref (b 22), .ref (b 23), .ref (b 24), .int (m 25), .int (m 26), .int (m 27), .int (m 28), .ref (b 29), .ref (b 30), .int (m 31), .int (m 32), .int (m 33), .int (m 34), .int (m 35), .ref (b 36), .ref (b 37), .int (m 38), .ref (b 39), .ref (b 40), .int (m 41), .int (m 42), .int (m 43), .ref (b 44), .ref (b 45), .ref (b 46), .ref (b 47)])), (b 0, .inl (g 0, 23, .inl (fun i => nI (M i)))), (b 44, .inl (g 0, 6, .inl SH)), (b 45, .inl (g 0, 6, .inl (fun i => nI (MN i)))), (b 46, .inl (g 1, 360, .inr (.inl IT)))]) ⟨rfl, rfl⟩ (zk_rs (As := [.int x]) (rest := []) Z ((ct_X8_isShelf l D g τ x ) sS.heap.size) hK hT hA G [] rfl (by decide) gmX8_worlds_X8_isShelf rfl dvX8_isShelf ⟨by decide, by decide⟩ rfl hl.1 rfl (Nat.le_of_ble_eq_true rfl) dX8_worlds_1 ⟨Nat.zero_le _, Nat.zero_le _⟩) hA G [] [0, 1, 2, 3, 4] [0, 1, 2, 3, 4] rfl rfl (by decide) (by decide) (by decide) (fun _ => rfl) (fun r_1 _ H locs w_1 G => ?_)
  obtain rfl : r_1 = zk_b (zb_w 6 x) := w_1
  refine lv_if_eq (tgt := 19) Z.1 Z.2.1 dX8_worlds_4 (by decide) (fun c4 => ?_) (fun c4 => ?_)
  · have c4 : (zb_w 6 x) = false := zk_b0.mp c4
    refine lv_iconst (v := (-1)) Z.1 Z.2.1 dX8_worlds_19 (by decide +kernel) ?_
    have hO : zm_wsOk x nn = false := by unfold zm_wsOk; rw [c4]; simp
    have hC : zm_wsC IT SH MN n x i9 nn = 0 := by unfold zm_wsC; rw [hO]; rfl
    exact zk_reti Z hR_ hlk hK hQ G (n, M) ⟨(by unfold zm_wsA; rw [hO]; rfl), (by rw [hC]; rfl)⟩ rfl dX8_worlds_20
  have c4 : (zb_w 6 x) = true := zk_b1.mp c4
  have c4_0 := c4
  obtain ⟨d, hd, rfl, hd2⟩ := zb_w_ex c4
  refine lv_iload_n Z.1 Z.2.1 dX8_worlds_7 rfl (lv_at hl 3 rfl) ?_
  refine lv_i2l (v := nn.toInt64) Z.1 Z.2.1 dX8_worlds_8 rfl ?_
  refine lv_lconst (v := lN 1) Z.1 Z.2.1 dX8_worlds_9 (by decide +kernel) ?_
  refine lv_ldc2 (v := lN 6) Z.1 Z.2.1 Z.2.2.2.1 (Z.2.2.2.2 _ (List.mem_cons_of_mem _ wa8_61)) dX8_worlds_10 ?_
  refine zk_ci (WF := fun (_ : Unit) => [(b 100, .inr (8, [.ref (b 0), .ref (b 1), .ref (b 2), .ref (b 3), .int (m 4), .int (m 5), .int (nI n), .int (m 7), .ref (b 8), .int (m 9), .ref (b 10), .int (m 11), .int (m 12), .int (m 13), .int (m 14), .int (m 15), .int (m 16), .ref (b 17), .ref (b 18), .ref (b 19), .ref (b 20), .ref (b 21), .ref (b 22), .ref (b 23), .ref (b 24), .int (m 25), .int (m 26), .int (m 27), .int (m 28), .ref (b 29), .ref (b 30), .int (m 31), .int (m 32), .int (m 33), .int (m 34), .int (m 35), .ref (b 36), .ref (b 37), .int (m 38), .ref (b 39), .ref (b 40), .int (m 41), .int (m 42), .int (m 43), .ref (b 44), .ref (b 45), .ref (b 46), .ref (b 47)])), (b 0, .inl (g 0, 23, .inl (fun i => nI (M i)))), (b 44, .inl (g 0, 6, .inl SH)), (b 45, .inl (g 0, 6, .inl (fun i => nI (MN i)))), (b 46, .inl (g 1, 360, .inr (.inl IT)))]) (wr := [(b 100, .inr (8, [.ref (b 0), .ref (b 1), .ref (b 2), .ref (b 3), .int (m 4), .int (m 5), .int (nI n), .int (m 7), .ref (b 8), .int (m 9), .ref (b 10), .int (m 11), .int (m 12), .int (m 13), .int (m 14), .int (m 15), .int (m 16), .ref (b 17), .ref (b 18), .ref (b 19), .ref (b 20), .ref (b 21), .ref (b 22), .ref (b 23), .ref (b 24), .int (m 25), .int (m 26), .int (m 27), .int (m 28), .ref (b 29), .ref (b 30), .int (m 31), .int (m 32), .int (m 33), .int (m 34), .int (m 35), .ref (b 36), .ref (b 37), .int (m 38), .ref (b 39), .ref (b 40), .int (m 41), .int (m 42), .int (m 43), .ref (b 44), .ref (b 45), .ref (b 46), .ref (b 47)])), (b 0, .inl (g 0, 23, .inl (fun i => nI (M i)))), (b 44, .inl (g 0, 6, .inl SH)), (b 45, .inl (g 0, 6, .inl (fun i => nI (MN i)))), (b 46, .inl (g 1, 360, .inr (.inl IT)))]) ⟨rfl, rfl⟩ (zk_rs (As := [.long nn.toInt64, .long (lN 1), .long (lN 6)]) (rest := []) Z ((ct_X8_within l D g τ nn.toInt64 (lN 1) (lN 6) ) H.size) hK hT hA G [] rfl (by decide) gmX8_worlds_X8_within rfl dvX8_within ⟨by decide, by decide⟩ rfl hl.1 rfl (Nat.le_of_ble_eq_true rfl) dX8_worlds_13 ⟨Nat.zero_le _, Nat.zero_le _⟩) hA G [] [0, 1, 2, 3, 4] [0, 1, 2, 3, 4] rfl rfl (by decide) (by decide) (by decide) (fun _ => rfl) (fun r_13 _ H locs w_13 G => ?_)
  obtain rfl : r_13 = zk_b (zm_in nn.toInt64 (lN 1) (lN 6)) := w_13
  refine lv_if_ne (tgt := 21) Z.1 Z.2.1 dX8_worlds_16 (by decide) (fun c16 => ?_) (fun c16 => ?_)
  · have c16 : (zm_in nn.toInt64 (lN 1) (lN 6)) = true := zk_b1.mp c16
    have c16_0 := c16
    obtain ⟨m9, hm9, rfl, hm1, hm6⟩ := zm_in_ex (a := 1) (c := 6) (by decide) (by decide) c16
    have hok9 : zm_wsOk (nI d) (nI m9) = true := by unfold zm_wsOk; rw [c4_0, c16_0]; rfl
    have hmd := hmn d
    refine lv_aload_n Z.1 Z.2.1 dX8_worlds_21 rfl (lv_at hl 0 rfl) ?_
    refine zk_get (C := RX8) (T := TX8) (N := 48) (ci := 8) Z hK G hinX8 0 rfl rfl 44 (by decide) (List.mem_cons_of_mem _ wa8_28) rfl (v := .ref (b 44)) rfl dX8_worlds_22 ?_
    refine lv_iload_n Z.1 Z.2.1 dX8_worlds_25 rfl (lv_at hl 1 rfl) ?_
    refine zk_iald Z hK G 2 rfl (k := d) (by omega) (by decide) (v := SH d) rfl dX8_worlds_26 ?_
    refine lv_if_lt (tgt := 44) Z.1 Z.2.1 dX8_worlds_27 (by decide) (fun c27 => ?_) (fun c27 => ?_)
    · have c27 : SH d < 0 := c27
      have c27 : SH d < 0 := c27
      refine lv_iconst (v := nI 0) Z.1 Z.2.1 dX8_worlds_44 (by decide +kernel) ?_
      refine lv_istore (lv' := [(4, .int (nI 0)), (0, .ref (b 100)), (1, .int (nI d)), (2, .int i9), (3, .int (nI m9))]) Z.1 Z.2.1 dX8_worlds_45 hl (by decide) rfl (fun ls hl => ?_)
      refine lv_aload_n Z.1 Z.2.1 dX8_worlds_47 rfl (lv_at hl 1 rfl) ?_
      refine zk_get (C := RX8) (T := TX8) (N := 48) (ci := 8) Z hK G hinX8 0 rfl rfl 44 (by decide) (List.mem_cons_of_mem _ wa8_28) rfl (v := .ref (b 44)) rfl dX8_worlds_48 ?_
      refine lv_iload_n Z.1 Z.2.1 dX8_worlds_51 rfl (lv_at hl 2 rfl) ?_
      refine zk_iald Z hK G 2 rfl (k := d) (by omega) (by decide) (v := SH d) rfl dX8_worlds_52 ?_
      refine lv_bipush (v := nI 50) Z.1 Z.2.1 dX8_worlds_53 (by decide +kernel) ?_
      refine lv_icmp_ne (tgt := 66) Z.1 Z.2.1 dX8_worlds_55 (by decide) (fun c55 => ?_) (fun c55 => ?_)
      · have c55 : ¬ SH d = 50 := c55
        refine lv_iconst (v := nI 0) Z.1 Z.2.1 dX8_worlds_66 (by decide +kernel) ?_
        refine W.eq (g2 := F0 mM 67 ls [.int (zk_b false)]) rfl ?_
        refine lv_istore (lv' := [(5, .int (zk_b false)), (4, .int (nI 0)), (0, .ref (b 100)), (1, .int (nI d)), (2, .int i9), (3, .int (nI m9))]) Z.1 Z.2.1 dX8_worlds_67 hl (by decide) rfl (fun ls hl => ?_)
        refine lv_iload Z.1 Z.2.1 dX8_worlds_69 (lv_at hl 0 rfl) ?_
        refine lv_if_eq (tgt := 212) Z.1 Z.2.1 dX8_worlds_71 (by decide) (fun c71 => ?_) (fun c71 => ?_)
        · have c71 : false = false := zk_b0.mp c71
          refine lv_iload Z.1 Z.2.1 dX8_worlds_212 (lv_at hl 1 rfl) ?_
          have hC : zm_wsC IT SH MN n (nI d) i9 (nI m9) = 0 := by unfold zm_wsC; rw [zb_nat hd, decide_eq_false (show ¬ SH d = 50 from c55)]; simp
          exact zk_reti Z hR_ hlk hK hQ G (n, M) ⟨(by unfold zm_wsA; rw [if_pos hok9, zb_nat hd, if_neg (fun q9 => absurd q9.1 (Int32.not_le.mpr c27)), hC] <;> rfl), (by rw [hC] <;> rfl)⟩ rfl dX8_worlds_214
        exfalso
        have c71 : false = true := zk_b1.mp c71
        exact absurd c71 (by decide)
      have c55 : SH d = 50 := c55
      refine lv_iload_n Z.1 Z.2.1 dX8_worlds_58 rfl (lv_at hl 3 rfl) ?_
      refine lv_if_lt (tgt := 66) Z.1 Z.2.1 dX8_worlds_59 (by decide) (fun c59 => ?_) (fun c59 => ?_)
      · have c59 : i9 < 0 := c59
        have c59n : i9 < 0 := c59
        refine lv_iconst (v := nI 0) Z.1 Z.2.1 dX8_worlds_66 (by decide +kernel) ?_
        refine W.eq (g2 := F0 mM 67 ls [.int (zk_b false)]) rfl ?_
        refine lv_istore (lv' := [(5, .int (zk_b false)), (4, .int (nI 0)), (0, .ref (b 100)), (1, .int (nI d)), (2, .int i9), (3, .int (nI m9))]) Z.1 Z.2.1 dX8_worlds_67 hl (by decide) rfl (fun ls hl => ?_)
        refine lv_iload Z.1 Z.2.1 dX8_worlds_69 (lv_at hl 0 rfl) ?_
        refine lv_if_eq (tgt := 212) Z.1 Z.2.1 dX8_worlds_71 (by decide) (fun c71 => ?_) (fun c71 => ?_)
        · have c71 : false = false := zk_b0.mp c71
          refine lv_iload Z.1 Z.2.1 dX8_worlds_212 (lv_at hl 1 rfl) ?_
          have hC : zm_wsC IT SH MN n (nI d) i9 (nI m9) = 0 := by unfold zm_wsC; rw [decide_eq_false (fun q9 : ¬ i9 < 0 => q9 c59n)]; simp
          exact zk_reti Z hR_ hlk hK hQ G (n, M) ⟨(by unfold zm_wsA; rw [if_pos hok9, zb_nat hd, if_neg (fun q9 => q9.2 (show SH d = 50 from c55)), hC] <;> rfl), (by rw [hC] <;> rfl)⟩ rfl dX8_worlds_214
        exfalso
        have c71 : false = true := zk_b1.mp c71
        exact absurd c71 (by decide)
      have c59 : ¬ i9 < 0 := c59
      have c59n : ¬ i9 < 0 := c59
      have hi0 := c59n
      obtain ⟨ip, hi, rfl⟩ := nI_of c59n
      obtain ⟨V, hV⟩ : ∃ V, V = zm_cw IT (60 * d) (MN d) m9 n ip := ⟨_, rfl⟩
      refine lv_iconst (v := nI 1) Z.1 Z.2.1 dX8_worlds_62 (by decide +kernel) ?_
      refine lv_goto (tgt := 67) Z.1 Z.2.1 dX8_worlds_63 (by decide) ?_
      refine W.eq (g2 := F0 mM 67 ls [.int (zk_b true)]) rfl ?_
      refine lv_istore (lv' := [(5, .int (zk_b true)), (4, .int (nI 0)), (0, .ref (b 100)), (1, .int (nI d)), (2, .int (nI ip)), (3, .int (nI m9))]) Z.1 Z.2.1 dX8_worlds_67 hl (by decide) rfl (fun ls hl => ?_)
      have L69 : ∀ (nN : Nat) (c : Nat) (f : Nat) (gb : Bool), f < nN → ((gb = true → zm_cw IT (60 * d) (MN d) f (n + c) (ip + 3 * c) + c = V ∧ c + f = m9) ∧ (gb = false → c = V)) → (n + c ≤ 6) → (c ≤ m9) → ∀ (H : Heap) (locs : List Loc) (ls : Array Slot), zk_G D aA [(b 100, .inr (8, [.ref (b 0), .ref (b 1), .ref (b 2), .ref (b 3), .int (m 4), .int (m 5), .int (nI (n + c)), .int (m 7), .ref (b 8), .int (m 9), .ref (b 10), .int (m 11), .int (m 12), .int (m 13), .int (m 14), .int (m 15), .int (m 16), .ref (b 17), .ref (b 18), .ref (b 19), .ref (b 20), .ref (b 21), .ref (b 22), .ref (b 23), .ref (b 24), .int (m 25), .int (m 26), .int (m 27), .int (m 28), .ref (b 29), .ref (b 30), .int (m 31), .int (m 32), .int (m 33), .int (m 34), .int (m 35), .ref (b 36), .ref (b 37), .int (m 38), .ref (b 39), .ref (b 40), .int (m 41), .int (m 42), .int (m 43), .ref (b 44), .ref (b 45), .ref (b 46), .ref (b 47)])), (b 0, .inl (g 0, 23, .inl (fun i => nI ((zm_aw IT M n (60 * d + ip) c) i)))), (b 44, .inl (g 0, 6, .inl SH)), (b 45, .inl (g 0, 6, .inl (fun i => nI (MN i)))), (b 46, .inl (g 1, 360, .inr (.inl IT)))] sS H locs → lv_has ls 7 [(0, .ref (b 100)), (1, .int (nI d)), (2, .int (nI ip)), (3, .int (nI m9)), (4, .int (nI c)), (5, .int (zk_b gb))] → W pP l eE rm_X8_worlds sS mM args below meth cC H locs 0 0 qQ (F0 mM 69 ls []) := by
        intro nN
        induction nN with
        | zero => intros; omega
        | succ nN ih69 =>
          intro c f gb hμ hgb hc6 hcm H locs ls G hl
          refine lv_iload Z.1 Z.2.1 dX8_worlds_69 (lv_at hl 5 rfl) ?_
          refine lv_if_eq (tgt := 212) Z.1 Z.2.1 dX8_worlds_71 (by decide) (fun c71 => ?_) (fun c71 => ?_)
          · have c71 : gb = false := zk_b0.mp c71
            refine lv_iload Z.1 Z.2.1 dX8_worlds_212 (lv_at hl 4 rfl) ?_
            have ecV : c = V := hgb.2 c71
            have hC : zm_wsC IT SH MN n (nI d) (nI ip) (nI m9) = c := by unfold zm_wsC; rw [hok9, zb_nat hd, decide_eq_true (show SH d = 50 from c55), decide_eq_true hi0, if_pos (by rfl), zb_nat hm9, zb_nat hi, ← hV, ecV]
            exact zk_reti Z hR_ hlk hK hQ G (n + c, zm_aw IT M n (60 * d + ip) c) ⟨(by unfold zm_wsA; rw [if_pos hok9, zb_nat hd, if_neg (fun q9 => q9.2 c55), hC]), (by rw [hC, zb_nat hd, zb_nat hi])⟩ rfl dX8_worlds_214
          have c71 : gb = true := zk_b1.mp c71
          obtain ⟨hs, hcf⟩ := hgb.1 c71
          refine lv_iload Z.1 Z.2.1 dX8_worlds_74 (lv_at hl 4 rfl) ?_
          refine lv_iload_n Z.1 Z.2.1 dX8_worlds_76 rfl (lv_at hl 3 rfl) ?_
          refine lv_icmp_ge (tgt := 212) Z.1 Z.2.1 dX8_worlds_77 (by decide) (fun c77 => ?_) (fun c77 => ?_)
          · have c77 : m9 ≤ c := zk_le (by omega) (by omega) c77
            refine lv_iload Z.1 Z.2.1 dX8_worlds_212 (lv_at hl 4 rfl) ?_
            have ecV : c = V := by have h9 := hs; rw [show f = 0 by omega] at h9; simp only [zm_cw] at h9; omega
            have hC : zm_wsC IT SH MN n (nI d) (nI ip) (nI m9) = c := by unfold zm_wsC; rw [hok9, zb_nat hd, decide_eq_true (show SH d = 50 from c55), decide_eq_true hi0, if_pos (by rfl), zb_nat hm9, zb_nat hi, ← hV, ecV]
            exact zk_reti Z hR_ hlk hK hQ G (n + c, zm_aw IT M n (60 * d + ip) c) ⟨(by unfold zm_wsA; rw [if_pos hok9, zb_nat hd, if_neg (fun q9 => q9.2 c55), hC]), (by rw [hC, zb_nat hd, zb_nat hi])⟩ rfl dX8_worlds_214
          have c77 : c < m9 := zk_nle (by omega) (by omega) c77
          obtain ⟨f9, rfl⟩ : ∃ f9, f = f9 + 1 := ⟨f - 1, by omega⟩
          refine lv_iload_n Z.1 Z.2.1 dX8_worlds_80 rfl (lv_at hl 2 rfl) ?_
          refine lv_aload_n Z.1 Z.2.1 dX8_worlds_81 rfl (lv_at hl 0 rfl) ?_
          refine zk_get (C := RX8) (T := TX8) (N := 48) (ci := 8) Z hK G hinX8 0 rfl rfl 45 (by decide) (List.mem_cons_of_mem _ wa8_29) rfl (v := .ref (b 45)) rfl dX8_worlds_82 ?_
          refine lv_iload_n Z.1 Z.2.1 dX8_worlds_85 rfl (lv_at hl 1 rfl) ?_
          refine zk_iald Z hK G 3 rfl (k := d) (by omega) (by decide) (v := nI (MN d)) rfl dX8_worlds_86 ?_
          refine lv_iconst (v := nI 3) Z.1 Z.2.1 dX8_worlds_87 (by decide +kernel) ?_
          refine zk_isub Z dX8_worlds_88 (z := nI (MN d) - nI 3) rfl ?_
          refine lv_iconst (v := nI 3) Z.1 Z.2.1 dX8_worlds_89 (by decide +kernel) ?_
          refine lv_iload Z.1 Z.2.1 dX8_worlds_90 (lv_at hl 4 rfl) ?_
          refine zk_imul Z dX8_worlds_92 (z := nI (3 * c)) (pk_mul _ _) ?_
          refine zk_isub Z dX8_worlds_93 (z := nI (MN d) - nI 3 - nI (3 * c)) rfl ?_
          refine lv_icmp_gt (tgt := 110) Z.1 Z.2.1 dX8_worlds_94 (by decide) (fun c94 => ?_) (fun c94 => ?_)
          · have hp3 : ¬ ip + 3 * c + 3 ≤ MN d := fun q9 => (Int32.not_le.mpr c94) ((zm_len3 hmd hi (by omega)).mpr q9)
            refine lv_iconst (v := nI 0) Z.1 Z.2.1 dX8_worlds_110 (by decide +kernel) ?_
            refine lv_istore (lv' := [(5, .int (nI 0)), (0, .ref (b 100)), (1, .int (nI d)), (2, .int (nI ip)), (3, .int (nI m9)), (4, .int (nI c))]) Z.1 Z.2.1 dX8_worlds_111 hl (by decide) rfl (fun ls hl => ?_)
            refine lv_bipush (v := nI 60) Z.1 Z.2.1 dX8_worlds_113 (by decide +kernel) ?_
            refine lv_iload_n Z.1 Z.2.1 dX8_worlds_115 rfl (lv_at hl 2 rfl) ?_
            refine zk_imul Z dX8_worlds_116 (z := nI (60 * d)) (pk_mul _ _) ?_
            refine lv_iload_n Z.1 Z.2.1 dX8_worlds_117 rfl (lv_at hl 3 rfl) ?_
            refine zk_iadd Z dX8_worlds_118 (z := nI (60 * d + ip)) (nI_add _ _) ?_
            refine lv_iconst (v := nI 3) Z.1 Z.2.1 dX8_worlds_119 (by decide +kernel) ?_
            refine lv_iload Z.1 Z.2.1 dX8_worlds_120 (lv_at hl 5 rfl) ?_
            refine zk_imul Z dX8_worlds_122 (z := nI (3 * c)) (pk_mul _ _) ?_
            refine zk_iadd Z dX8_worlds_123 (z := nI (60 * d + ip + (3 * c))) (nI_add _ _) ?_
            refine lv_istore (lv' := [(6, .int (nI (60 * d + ip + (3 * c)))), (5, .int (nI 0)), (0, .ref (b 100)), (1, .int (nI d)), (2, .int (nI ip)), (3, .int (nI m9)), (4, .int (nI c))]) Z.1 Z.2.1 dX8_worlds_124 hl (by decide) rfl (fun ls hl => ?_)
            refine lv_iload Z.1 Z.2.1 dX8_worlds_126 (lv_at hl 1 rfl) ?_
            refine lv_if_eq (tgt := 166) Z.1 Z.2.1 dX8_worlds_128 (by decide) (fun c128 => ?_) (fun c128 => ?_)
            · have c128 : 0 = 0 := zk_eq (by omega) (by omega) c128
              refine lv_iconst (v := nI 0) Z.1 Z.2.1 dX8_worlds_166 (by decide +kernel) ?_
              refine lv_istore (lv' := [(5, .int (nI 0)), (6, .int (nI (60 * d + ip + (3 * c)))), (0, .ref (b 100)), (1, .int (nI d)), (2, .int (nI ip)), (3, .int (nI m9)), (4, .int (nI c))]) Z.1 Z.2.1 dX8_worlds_167 hl (by decide) rfl (fun ls hl => ?_)
              refine lv_iload Z.1 Z.2.1 dX8_worlds_169 (lv_at hl 0 rfl) ?_
              refine lv_if_eq (tgt := 209) Z.1 Z.2.1 dX8_worlds_171 (by decide) (fun c171 => ?_) (fun c171 => ?_)
              · have c171 : 0 = 0 := zk_eq (by omega) (by omega) c171
                have hl : lv_has ls 7 [(5, .int (zk_b false)), (6, .int (nI (60 * d + ip + (3 * c)))), (0, .ref (b 100)), (1, .int (nI d)), (2, .int (nI ip)), (3, .int (nI m9)), (4, .int (nI c))] := hl
                refine lv_goto (tgt := 69) Z.1 Z.2.1 dX8_worlds_209 (by decide) ?_
                exact ih69 c f9 false (by omega) (by exact ⟨fun q9 => absurd q9 (by decide), fun _ => by have h9 := hs; rw [zm_cw_n (fun q9 => hp3 q9.1)] at h9; omega⟩) (by omega) (by omega) _ _ _ G (lv_sub hl [2, 3, 4, 5, 6, 0] rfl)
              exfalso
              have c171 : 0 ≠ 0 := zk_neq (by omega) (by omega) c171
              omega
            exfalso
            have c128 : 0 ≠ 0 := zk_neq (by omega) (by omega) c128
            omega
          have hp3 : ip + 3 * c + 3 ≤ MN d := (zm_len3 hmd hi (by omega)).mp (Int32.not_lt.mp c94)
          refine lv_aload_n Z.1 Z.2.1 dX8_worlds_97 rfl (lv_at hl 0 rfl) ?_
          refine zk_get (C := RX8) (T := TX8) (N := 48) (ci := 8) Z hK G hinX8 0 rfl rfl 6 (by decide) (List.mem_cons_of_mem _ wa8_40) rfl (v := .int (nI (n + c))) rfl dX8_worlds_98 ?_
          refine lv_bipush (v := nI 6) Z.1 Z.2.1 dX8_worlds_101 (by decide +kernel) ?_
          refine lv_icmp_ge (tgt := 110) Z.1 Z.2.1 dX8_worlds_103 (by decide) (fun c103 => ?_) (fun c103 => ?_)
          · have c103 : 6 ≤ n + c := zk_le (by omega) (by omega) c103
            refine lv_iconst (v := nI 0) Z.1 Z.2.1 dX8_worlds_110 (by decide +kernel) ?_
            refine lv_istore (lv' := [(5, .int (nI 0)), (0, .ref (b 100)), (1, .int (nI d)), (2, .int (nI ip)), (3, .int (nI m9)), (4, .int (nI c))]) Z.1 Z.2.1 dX8_worlds_111 hl (by decide) rfl (fun ls hl => ?_)
            refine lv_bipush (v := nI 60) Z.1 Z.2.1 dX8_worlds_113 (by decide +kernel) ?_
            refine lv_iload_n Z.1 Z.2.1 dX8_worlds_115 rfl (lv_at hl 2 rfl) ?_
            refine zk_imul Z dX8_worlds_116 (z := nI (60 * d)) (pk_mul _ _) ?_
            refine lv_iload_n Z.1 Z.2.1 dX8_worlds_117 rfl (lv_at hl 3 rfl) ?_
            refine zk_iadd Z dX8_worlds_118 (z := nI (60 * d + ip)) (nI_add _ _) ?_
            refine lv_iconst (v := nI 3) Z.1 Z.2.1 dX8_worlds_119 (by decide +kernel) ?_
            refine lv_iload Z.1 Z.2.1 dX8_worlds_120 (lv_at hl 5 rfl) ?_
            refine zk_imul Z dX8_worlds_122 (z := nI (3 * c)) (pk_mul _ _) ?_
            refine zk_iadd Z dX8_worlds_123 (z := nI (60 * d + ip + (3 * c))) (nI_add _ _) ?_
            refine lv_istore (lv' := [(6, .int (nI (60 * d + ip + (3 * c)))), (5, .int (nI 0)), (0, .ref (b 100)), (1, .int (nI d)), (2, .int (nI ip)), (3, .int (nI m9)), (4, .int (nI c))]) Z.1 Z.2.1 dX8_worlds_124 hl (by decide) rfl (fun ls hl => ?_)
            refine lv_iload Z.1 Z.2.1 dX8_worlds_126 (lv_at hl 1 rfl) ?_
            refine lv_if_eq (tgt := 166) Z.1 Z.2.1 dX8_worlds_128 (by decide) (fun c128 => ?_) (fun c128 => ?_)
            · have c128 : 0 = 0 := zk_eq (by omega) (by omega) c128
              refine lv_iconst (v := nI 0) Z.1 Z.2.1 dX8_worlds_166 (by decide +kernel) ?_
              refine lv_istore (lv' := [(5, .int (nI 0)), (6, .int (nI (60 * d + ip + (3 * c)))), (0, .ref (b 100)), (1, .int (nI d)), (2, .int (nI ip)), (3, .int (nI m9)), (4, .int (nI c))]) Z.1 Z.2.1 dX8_worlds_167 hl (by decide) rfl (fun ls hl => ?_)
              refine lv_iload Z.1 Z.2.1 dX8_worlds_169 (lv_at hl 0 rfl) ?_
              refine lv_if_eq (tgt := 209) Z.1 Z.2.1 dX8_worlds_171 (by decide) (fun c171 => ?_) (fun c171 => ?_)
              · have c171 : 0 = 0 := zk_eq (by omega) (by omega) c171
                have hl : lv_has ls 7 [(5, .int (zk_b false)), (6, .int (nI (60 * d + ip + (3 * c)))), (0, .ref (b 100)), (1, .int (nI d)), (2, .int (nI ip)), (3, .int (nI m9)), (4, .int (nI c))] := hl
                refine lv_goto (tgt := 69) Z.1 Z.2.1 dX8_worlds_209 (by decide) ?_
                exact ih69 c f9 false (by omega) (by exact ⟨fun q9 => absurd q9 (by decide), fun _ => by have h9 := hs; rw [zm_cw_n (fun q9 => absurd q9.2.1 (Nat.not_lt.mpr c103))] at h9; omega⟩) (by omega) (by omega) _ _ _ G (lv_sub hl [2, 3, 4, 5, 6, 0] rfl)
              exfalso
              have c171 : 0 ≠ 0 := zk_neq (by omega) (by omega) c171
              omega
            exfalso
            have c128 : 0 ≠ 0 := zk_neq (by omega) (by omega) c128
            omega
          have c103 : n + c < 6 := zk_nle (by omega) (by omega) c103
          refine lv_iconst (v := nI 1) Z.1 Z.2.1 dX8_worlds_106 (by decide +kernel) ?_
          refine lv_goto (tgt := 111) Z.1 Z.2.1 dX8_worlds_107 (by decide) ?_
          refine lv_istore (lv' := [(5, .int (nI 1)), (0, .ref (b 100)), (1, .int (nI d)), (2, .int (nI ip)), (3, .int (nI m9)), (4, .int (nI c))]) Z.1 Z.2.1 dX8_worlds_111 hl (by decide) rfl (fun ls hl => ?_)
          refine lv_bipush (v := nI 60) Z.1 Z.2.1 dX8_worlds_113 (by decide +kernel) ?_
          refine lv_iload_n Z.1 Z.2.1 dX8_worlds_115 rfl (lv_at hl 2 rfl) ?_
          refine zk_imul Z dX8_worlds_116 (z := nI (60 * d)) (pk_mul _ _) ?_
          refine lv_iload_n Z.1 Z.2.1 dX8_worlds_117 rfl (lv_at hl 3 rfl) ?_
          refine zk_iadd Z dX8_worlds_118 (z := nI (60 * d + ip)) (nI_add _ _) ?_
          refine lv_iconst (v := nI 3) Z.1 Z.2.1 dX8_worlds_119 (by decide +kernel) ?_
          refine lv_iload Z.1 Z.2.1 dX8_worlds_120 (lv_at hl 5 rfl) ?_
          refine zk_imul Z dX8_worlds_122 (z := nI (3 * c)) (pk_mul _ _) ?_
          refine zk_iadd Z dX8_worlds_123 (z := nI (60 * d + ip + (3 * c))) (nI_add _ _) ?_
          refine lv_istore (lv' := [(6, .int (nI (60 * d + ip + (3 * c)))), (5, .int (nI 1)), (0, .ref (b 100)), (1, .int (nI d)), (2, .int (nI ip)), (3, .int (nI m9)), (4, .int (nI c))]) Z.1 Z.2.1 dX8_worlds_124 hl (by decide) rfl (fun ls hl => ?_)
          refine lv_iload Z.1 Z.2.1 dX8_worlds_126 (lv_at hl 1 rfl) ?_
          refine lv_if_eq (tgt := 166) Z.1 Z.2.1 dX8_worlds_128 (by decide) (fun c128 => ?_) (fun c128 => ?_)
          · exfalso
            have c128 : 1 = 0 := zk_eq (by omega) (by omega) c128
            omega
          have c128 : 1 ≠ 0 := zk_neq (by omega) (by omega) c128
          refine lv_aload_n Z.1 Z.2.1 dX8_worlds_131 rfl (lv_at hl 2 rfl) ?_
          refine zk_get (C := RX8) (T := TX8) (N := 48) (ci := 8) Z hK G hinX8 0 rfl rfl 46 (by decide) (List.mem_cons_of_mem _ wa8_31) rfl (v := .ref (b 46)) rfl dX8_worlds_132 ?_
          refine lv_iload Z.1 Z.2.1 dX8_worlds_135 (lv_at hl 0 rfl) ?_
          refine zk_lald Z hK G 4 rfl (k := 60 * d + ip + (3 * c)) (by omega) (by decide) (v := IT (60 * d + ip + (3 * c))) rfl dX8_worlds_137 ?_
          refine lv_aload_n Z.1 Z.2.1 dX8_worlds_138 rfl (lv_at hl 2 rfl) ?_
          refine zk_get (C := RX8) (T := TX8) (N := 48) (ci := 8) Z hK G hinX8 0 rfl rfl 46 (by decide) (List.mem_cons_of_mem _ wa8_31) rfl (v := .ref (b 46)) rfl dX8_worlds_139 ?_
          refine lv_iload Z.1 Z.2.1 dX8_worlds_142 (lv_at hl 0 rfl) ?_
          refine lv_iconst (v := nI 1) Z.1 Z.2.1 dX8_worlds_144 (by decide +kernel) ?_
          refine zk_iadd Z dX8_worlds_145 (z := nI (60 * d + ip + (3 * c) + 1)) (nI_add _ _) ?_
          refine zk_lald Z hK G 4 rfl (k := 60 * d + ip + (3 * c) + 1) (by omega) (by decide) (v := IT (60 * d + ip + (3 * c) + 1)) rfl dX8_worlds_146 ?_
          refine lv_aload_n Z.1 Z.2.1 dX8_worlds_147 rfl (lv_at hl 2 rfl) ?_
          refine zk_get (C := RX8) (T := TX8) (N := 48) (ci := 8) Z hK G hinX8 0 rfl rfl 46 (by decide) (List.mem_cons_of_mem _ wa8_31) rfl (v := .ref (b 46)) rfl dX8_worlds_148 ?_
          refine lv_iload Z.1 Z.2.1 dX8_worlds_151 (lv_at hl 0 rfl) ?_
          refine lv_iconst (v := nI 2) Z.1 Z.2.1 dX8_worlds_153 (by decide +kernel) ?_
          refine zk_iadd Z dX8_worlds_154 (z := nI (60 * d + ip + (3 * c) + 2)) (nI_add _ _) ?_
          refine zk_lald Z hK G 4 rfl (k := 60 * d + ip + (3 * c) + 2) (by omega) (by decide) (v := IT (60 * d + ip + (3 * c) + 2)) rfl dX8_worlds_155 ?_
          refine zk_ci (WF := fun (_ : Unit) => [(b 100, .inr (8, [.ref (b 0), .ref (b 1), .ref (b 2), .ref (b 3), .int (m 4), .int (m 5), .int (nI (n + c)), .int (m 7), .ref (b 8), .int (m 9), .ref (b 10), .int (m 11), .int (m 12), .int (m 13), .int (m 14), .int (m 15), .int (m 16), .ref (b 17), .ref (b 18), .ref (b 19), .ref (b 20), .ref (b 21), .ref (b 22), .ref (b 23), .ref (b 24), .int (m 25), .int (m 26), .int (m 27), .int (m 28), .ref (b 29), .ref (b 30), .int (m 31), .int (m 32), .int (m 33), .int (m 34), .int (m 35), .ref (b 36), .ref (b 37), .int (m 38), .ref (b 39), .ref (b 40), .int (m 41), .int (m 42), .int (m 43), .ref (b 44), .ref (b 45), .ref (b 46), .ref (b 47)])), (b 0, .inl (g 0, 23, .inl (fun i => nI ((zm_aw IT M n (60 * d + ip) c) i)))), (b 44, .inl (g 0, 6, .inl SH)), (b 45, .inl (g 0, 6, .inl (fun i => nI (MN i)))), (b 46, .inl (g 1, 360, .inr (.inl IT)))]) (wr := [(b 100, .inr (8, [.ref (b 0), .ref (b 1), .ref (b 2), .ref (b 3), .int (m 4), .int (m 5), .int (nI (n + c)), .int (m 7), .ref (b 8), .int (m 9), .ref (b 10), .int (m 11), .int (m 12), .int (m 13), .int (m 14), .int (m 15), .int (m 16), .ref (b 17), .ref (b 18), .ref (b 19), .ref (b 20), .ref (b 21), .ref (b 22), .ref (b 23), .ref (b 24), .int (m 25), .int (m 26), .int (m 27), .int (m 28), .ref (b 29), .ref (b 30), .int (m 31), .int (m 32), .int (m 33), .int (m 34), .int (m 35), .ref (b 36), .ref (b 37), .int (m 38), .ref (b 39), .ref (b 40), .int (m 41), .int (m 42), .int (m 43), .ref (b 44), .ref (b 45), .ref (b 46), .ref (b 47)])), (b 0, .inl (g 0, 23, .inl (fun i => nI ((zm_aw IT M n (60 * d + ip) c) i)))), (b 44, .inl (g 0, 6, .inl SH)), (b 45, .inl (g 0, 6, .inl (fun i => nI (MN i)))), (b 46, .inl (g 1, 360, .inr (.inl IT)))]) ⟨rfl, rfl⟩ (zk_rs (As := [.long (IT (60 * d + ip + (3 * c))), .long (IT (60 * d + ip + (3 * c) + 1)), .long (IT (60 * d + ip + (3 * c) + 2))]) (rest := []) Z ((ct_X8_isOne l D g τ (IT (60 * d + ip + (3 * c))) (IT (60 * d + ip + (3 * c) + 1)) (IT (60 * d + ip + (3 * c) + 2)) ) H.size) hK hT hA G [] rfl (by decide) gmX8_worlds_X8_isOne rfl dvX8_isOne ⟨by decide, by decide⟩ rfl hl.1 rfl (Nat.le_of_ble_eq_true rfl) dX8_worlds_156 ⟨Nat.zero_le _, Nat.zero_le _⟩) hA G [] [0, 1, 2, 3, 4] [0, 1, 2, 3, 4] rfl rfl (by decide) (by decide) (by decide) (fun _ => rfl) (fun r_156 _ H locs w_156 G => ?_)
          obtain rfl : r_156 = zk_b (zm_one (IT (60 * d + ip + (3 * c))) (IT (60 * d + ip + (3 * c) + 1)) (IT (60 * d + ip + (3 * c) + 2))) := w_156
          refine lv_if_eq (tgt := 166) Z.1 Z.2.1 dX8_worlds_159 (by decide) (fun c159 => ?_) (fun c159 => ?_)
          · have c159 : (zm_one (IT (60 * d + ip + (3 * c))) (IT (60 * d + ip + (3 * c) + 1)) (IT (60 * d + ip + (3 * c) + 2))) = false := zk_b0.mp c159
            have eK9 : 60 * d + (ip + 3 * c) = 60 * d + ip + 3 * c := by omega
            refine lv_iconst (v := nI 0) Z.1 Z.2.1 dX8_worlds_166 (by decide +kernel) ?_
            refine lv_istore (lv' := [(5, .int (nI 0)), (6, .int (nI (60 * d + ip + (3 * c)))), (0, .ref (b 100)), (1, .int (nI d)), (2, .int (nI ip)), (3, .int (nI m9)), (4, .int (nI c))]) Z.1 Z.2.1 dX8_worlds_167 hl (by decide) rfl (fun ls hl => ?_)
            refine lv_iload Z.1 Z.2.1 dX8_worlds_169 (lv_at hl 0 rfl) ?_
            refine lv_if_eq (tgt := 209) Z.1 Z.2.1 dX8_worlds_171 (by decide) (fun c171 => ?_) (fun c171 => ?_)
            · have c171 : 0 = 0 := zk_eq (by omega) (by omega) c171
              have hl : lv_has ls 7 [(5, .int (zk_b false)), (6, .int (nI (60 * d + ip + (3 * c)))), (0, .ref (b 100)), (1, .int (nI d)), (2, .int (nI ip)), (3, .int (nI m9)), (4, .int (nI c))] := hl
              refine lv_goto (tgt := 69) Z.1 Z.2.1 dX8_worlds_209 (by decide) ?_
              exact ih69 c f9 false (by omega) (by exact ⟨fun q9 => absurd q9 (by decide), fun _ => by have h9 := hs; rw [zm_cw_n (fun q9 => by have h8 := q9.2.2; rw [eK9, c159] at h8; exact absurd h8 (by decide))] at h9; omega⟩) (by omega) (by omega) _ _ _ G (lv_sub hl [2, 3, 4, 5, 6, 0] rfl)
            exfalso
            have c171 : 0 ≠ 0 := zk_neq (by omega) (by omega) c171
            omega
          have c159 : (zm_one (IT (60 * d + ip + (3 * c))) (IT (60 * d + ip + (3 * c) + 1)) (IT (60 * d + ip + (3 * c) + 2))) = true := zk_b1.mp c159
          have eK9 : 60 * d + (ip + 3 * c) = 60 * d + ip + 3 * c := by omega
          have c159_0 : zm_one (IT (60 * d + (ip + 3 * c))) (IT (60 * d + (ip + 3 * c) + 1)) (IT (60 * d + (ip + 3 * c) + 2)) = true := by rw [eK9]; exact c159
          obtain ⟨p1, q1, r1, e7, e8, e9, hp1, hp2, hq1, hr1, hr2⟩ := zm_one_ex c159
          refine lv_iconst (v := nI 1) Z.1 Z.2.1 dX8_worlds_162 (by decide +kernel) ?_
          refine lv_goto (tgt := 167) Z.1 Z.2.1 dX8_worlds_163 (by decide) ?_
          refine lv_istore (lv' := [(5, .int (nI 1)), (6, .int (nI (60 * d + ip + (3 * c)))), (0, .ref (b 100)), (1, .int (nI d)), (2, .int (nI ip)), (3, .int (nI m9)), (4, .int (nI c))]) Z.1 Z.2.1 dX8_worlds_167 hl (by decide) rfl (fun ls hl => ?_)
          refine lv_iload Z.1 Z.2.1 dX8_worlds_169 (lv_at hl 0 rfl) ?_
          refine lv_if_eq (tgt := 209) Z.1 Z.2.1 dX8_worlds_171 (by decide) (fun c171 => ?_) (fun c171 => ?_)
          · exfalso
            have c171 : 1 = 0 := zk_eq (by omega) (by omega) c171
            omega
          have c171 : 1 ≠ 0 := zk_neq (by omega) (by omega) c171
          refine lv_aload_n Z.1 Z.2.1 dX8_worlds_174 rfl (lv_at hl 2 rfl) ?_
          refine lv_aload_n Z.1 Z.2.1 dX8_worlds_175 rfl (lv_at hl 2 rfl) ?_
          refine zk_get (C := RX8) (T := TX8) (N := 48) (ci := 8) Z hK G hinX8 0 rfl rfl 46 (by decide) (List.mem_cons_of_mem _ wa8_31) rfl (v := .ref (b 46)) rfl dX8_worlds_176 ?_
          refine lv_iload Z.1 Z.2.1 dX8_worlds_179 (lv_at hl 1 rfl) ?_
          refine zk_lald Z hK G 4 rfl (k := 60 * d + ip + (3 * c)) (by omega) (by decide) (v := IT (60 * d + ip + (3 * c))) rfl dX8_worlds_181 ?_
          refine lv_l2i (v := nI p1) Z.1 Z.2.1 dX8_worlds_182 (by rw [e7]; exact lN_i _) ?_
          refine lv_aload_n Z.1 Z.2.1 dX8_worlds_183 rfl (lv_at hl 2 rfl) ?_
          refine zk_get (C := RX8) (T := TX8) (N := 48) (ci := 8) Z hK G hinX8 0 rfl rfl 46 (by decide) (List.mem_cons_of_mem _ wa8_31) rfl (v := .ref (b 46)) rfl dX8_worlds_184 ?_
          refine lv_iload Z.1 Z.2.1 dX8_worlds_187 (lv_at hl 1 rfl) ?_
          refine lv_iconst (v := nI 1) Z.1 Z.2.1 dX8_worlds_189 (by decide +kernel) ?_
          refine zk_iadd Z dX8_worlds_190 (z := nI (60 * d + ip + (3 * c) + 1)) (nI_add _ _) ?_
          refine zk_lald Z hK G 4 rfl (k := 60 * d + ip + (3 * c) + 1) (by omega) (by decide) (v := IT (60 * d + ip + (3 * c) + 1)) rfl dX8_worlds_191 ?_
          refine lv_l2i (v := nI q1) Z.1 Z.2.1 dX8_worlds_192 (by rw [e8]; exact lN_i _) ?_
          refine lv_aload_n Z.1 Z.2.1 dX8_worlds_193 rfl (lv_at hl 2 rfl) ?_
          refine zk_get (C := RX8) (T := TX8) (N := 48) (ci := 8) Z hK G hinX8 0 rfl rfl 46 (by decide) (List.mem_cons_of_mem _ wa8_31) rfl (v := .ref (b 46)) rfl dX8_worlds_194 ?_
          refine lv_iload Z.1 Z.2.1 dX8_worlds_197 (lv_at hl 1 rfl) ?_
          refine lv_iconst (v := nI 2) Z.1 Z.2.1 dX8_worlds_199 (by decide +kernel) ?_
          refine zk_iadd Z dX8_worlds_200 (z := nI (60 * d + ip + (3 * c) + 2)) (nI_add _ _) ?_
          refine zk_lald Z hK G 4 rfl (k := 60 * d + ip + (3 * c) + 2) (by omega) (by decide) (v := IT (60 * d + ip + (3 * c) + 2)) rfl dX8_worlds_201 ?_
          refine lv_l2i (v := nI r1) Z.1 Z.2.1 dX8_worlds_202 (by rw [e9]; exact lN_i _) ?_
          refine zk_cv (WF := fun (_ : Unit) => [(b 100, .inr (8, [.ref (b 0), .ref (b 1), .ref (b 2), .ref (b 3), .int (m 4), .int (m 5), .int (nI ((n + c) + 1)), .int (m 7), .ref (b 8), .int (m 9), .ref (b 10), .int (m 11), .int (m 12), .int (m 13), .int (m 14), .int (m 15), .int (m 16), .ref (b 17), .ref (b 18), .ref (b 19), .ref (b 20), .ref (b 21), .ref (b 22), .ref (b 23), .ref (b 24), .int (m 25), .int (m 26), .int (m 27), .int (m 28), .ref (b 29), .ref (b 30), .int (m 31), .int (m 32), .int (m 33), .int (m 34), .int (m 35), .ref (b 36), .ref (b 37), .int (m 38), .ref (b 39), .ref (b 40), .int (m 41), .int (m 42), .int (m 43), .ref (b 44), .ref (b 45), .ref (b 46), .ref (b 47)])), (b 0, .inl (g 0, 23, .inl (fun i => nI (zs_up (zs_up (zs_up (zm_aw IT M n (60 * d + ip) c) (n + c) p1) (7 + (n + c)) q1) (14 + (n + c)) r1 i)))), (b 44, .inl (g 0, 6, .inl SH)), (b 45, .inl (g 0, 6, .inl (fun i => nI (MN i)))), (b 46, .inl (g 1, 360, .inr (.inl IT)))]) (wr := [(b 44, .inl (g 0, 6, .inl SH)), (b 45, .inl (g 0, 6, .inl (fun i => nI (MN i)))), (b 46, .inl (g 1, 360, .inr (.inl IT)))]) ⟨rfl, rfl⟩ (zk_rv (As := [.int (nI p1), .int (nI q1), .int (nI r1)]) (rest := []) (q0 := 0) (ci := 8) Z ((ct_X8_adds l D g τ b m (n + c) (zm_aw IT M n (60 * d + ip) c) p1 q1 r1 (by omega)) H.size) hK hT hA G [0, 1] rfl (by decide) rfl rfl gmX8_worlds_X8_adds rfl dvX8_adds ⟨by decide, by decide⟩ rfl hl.1 rfl (Nat.le_of_ble_eq_true rfl) dX8_worlds_203 ⟨Nat.zero_le _, Nat.zero_le _⟩) hA G [0, 1] [2, 3, 4] [3, 4, 0, 1, 2] rfl rfl (by decide) (by decide) (by decide) (fun _ => rfl) (fun _ H locs w_203 G => ?_)
          have e79 : (IT (60 * d + ip + 3 * c)).toInt32.toInt.toNat = p1 := by rw [e7, lN_i, zb_nat (by omega)]
          have e89 : (IT (60 * d + ip + 3 * c + 1)).toInt32.toInt.toNat = q1 := by rw [e8, lN_i, zb_nat (by omega)]
          have e99 : (IT (60 * d + ip + 3 * c + 2)).toInt32.toInt.toNat = r1 := by rw [e9, lN_i, zb_nat (by omega)]
          have eA9 : zm_aw IT M n (60 * d + ip) (c + 1) = zm_add (zm_aw IT M n (60 * d + ip) c) (n + c) p1 q1 r1 := by rw [← e79, ← e89, ← e99]; rfl
          have G : zk_G D aA [(b 100, .inr (8, [.ref (b 0), .ref (b 1), .ref (b 2), .ref (b 3), .int (m 4), .int (m 5), .int (nI (n + (c + 1))), .int (m 7), .ref (b 8), .int (m 9), .ref (b 10), .int (m 11), .int (m 12), .int (m 13), .int (m 14), .int (m 15), .int (m 16), .ref (b 17), .ref (b 18), .ref (b 19), .ref (b 20), .ref (b 21), .ref (b 22), .ref (b 23), .ref (b 24), .int (m 25), .int (m 26), .int (m 27), .int (m 28), .ref (b 29), .ref (b 30), .int (m 31), .int (m 32), .int (m 33), .int (m 34), .int (m 35), .ref (b 36), .ref (b 37), .int (m 38), .ref (b 39), .ref (b 40), .int (m 41), .int (m 42), .int (m 43), .ref (b 44), .ref (b 45), .ref (b 46), .ref (b 47)])), (b 0, .inl (g 0, 23, .inl (fun i => nI ((zm_aw IT M n (60 * d + ip) (c + 1)) i)))), (b 44, .inl (g 0, 6, .inl SH)), (b 45, .inl (g 0, 6, .inl (fun i => nI (MN i)))), (b 46, .inl (g 1, 360, .inr (.inl IT)))] sS H locs := (by rw [eA9]; exact G)
          refine lv_iinc (v := nI (c + 1)) (lv' := [(4, .int (nI (c + 1))), (5, .int (nI 1)), (6, .int (nI (60 * d + ip + (3 * c)))), (0, .ref (b 100)), (1, .int (nI d)), (2, .int (nI ip)), (3, .int (nI m9))]) Z.1 Z.2.1 dX8_worlds_206 hl (k := 6) rfl (zk_inc c 1) (by decide) rfl (fun ls hl => ?_)
          have hl : lv_has ls 7 [(4, .int (nI (c + 1))), (5, .int (zk_b true)), (6, .int (nI (60 * d + ip + (3 * c)))), (0, .ref (b 100)), (1, .int (nI d)), (2, .int (nI ip)), (3, .int (nI m9))] := hl
          refine lv_goto (tgt := 69) Z.1 Z.2.1 dX8_worlds_209 (by decide) ?_
          exact ih69 (c + 1) f9 true (by omega) (by exact ⟨fun _ => ⟨by have h9 := hs; rw [zm_cw_y hp3 c103 c159_0] at h9; rw [show n + (c + 1) = n + c + 1 by omega, show ip + 3 * (c + 1) = ip + 3 * c + 3 by omega]; omega, by omega⟩, fun q9 => absurd q9 (by decide)⟩) (by omega) (by omega) _ _ _ G (lv_sub hl [3, 4, 5, 6, 0, 1] rfl)
      exact L69 _ 0 m9 true (Nat.lt_succ_self _) (by exact ⟨fun _ => ⟨hV.symm, by omega⟩, fun q9 => absurd q9 (by decide)⟩) (by omega) (by omega) _ _ _ G (lv_sub hl [2, 3, 4, 5, 1, 0] rfl)
    have c27 : ¬ SH d < 0 := c27
    refine lv_aload_n Z.1 Z.2.1 dX8_worlds_30 rfl (lv_at hl 0 rfl) ?_
    refine zk_get (C := RX8) (T := TX8) (N := 48) (ci := 8) Z hK G hinX8 0 rfl rfl 44 (by decide) (List.mem_cons_of_mem _ wa8_28) rfl (v := .ref (b 44)) rfl dX8_worlds_31 ?_
    refine lv_iload_n Z.1 Z.2.1 dX8_worlds_34 rfl (lv_at hl 1 rfl) ?_
    refine zk_iald Z hK G 2 rfl (k := d) (by omega) (by decide) (v := SH d) rfl dX8_worlds_35 ?_
    refine lv_bipush (v := nI 50) Z.1 Z.2.1 dX8_worlds_36 (by decide +kernel) ?_
    refine lv_icmp_eq (tgt := 44) Z.1 Z.2.1 dX8_worlds_38 (by decide) (fun c38 => ?_) (fun c38 => ?_)
    · have c38 : SH d = 50 := c38
      have c38 : SH d = 50 := c38
      refine lv_iconst (v := nI 0) Z.1 Z.2.1 dX8_worlds_44 (by decide +kernel) ?_
      refine lv_istore (lv' := [(4, .int (nI 0)), (0, .ref (b 100)), (1, .int (nI d)), (2, .int i9), (3, .int (nI m9))]) Z.1 Z.2.1 dX8_worlds_45 hl (by decide) rfl (fun ls hl => ?_)
      refine lv_aload_n Z.1 Z.2.1 dX8_worlds_47 rfl (lv_at hl 1 rfl) ?_
      refine zk_get (C := RX8) (T := TX8) (N := 48) (ci := 8) Z hK G hinX8 0 rfl rfl 44 (by decide) (List.mem_cons_of_mem _ wa8_28) rfl (v := .ref (b 44)) rfl dX8_worlds_48 ?_
      refine lv_iload_n Z.1 Z.2.1 dX8_worlds_51 rfl (lv_at hl 2 rfl) ?_
      refine zk_iald Z hK G 2 rfl (k := d) (by omega) (by decide) (v := SH d) rfl dX8_worlds_52 ?_
      refine lv_bipush (v := nI 50) Z.1 Z.2.1 dX8_worlds_53 (by decide +kernel) ?_
      refine lv_icmp_ne (tgt := 66) Z.1 Z.2.1 dX8_worlds_55 (by decide) (fun c55 => ?_) (fun c55 => ?_)
      · have c55 : ¬ SH d = 50 := c55
        refine lv_iconst (v := nI 0) Z.1 Z.2.1 dX8_worlds_66 (by decide +kernel) ?_
        refine W.eq (g2 := F0 mM 67 ls [.int (zk_b false)]) rfl ?_
        refine lv_istore (lv' := [(5, .int (zk_b false)), (4, .int (nI 0)), (0, .ref (b 100)), (1, .int (nI d)), (2, .int i9), (3, .int (nI m9))]) Z.1 Z.2.1 dX8_worlds_67 hl (by decide) rfl (fun ls hl => ?_)
        refine lv_iload Z.1 Z.2.1 dX8_worlds_69 (lv_at hl 0 rfl) ?_
        refine lv_if_eq (tgt := 212) Z.1 Z.2.1 dX8_worlds_71 (by decide) (fun c71 => ?_) (fun c71 => ?_)
        · have c71 : false = false := zk_b0.mp c71
          refine lv_iload Z.1 Z.2.1 dX8_worlds_212 (lv_at hl 1 rfl) ?_
          have hC : zm_wsC IT SH MN n (nI d) i9 (nI m9) = 0 := by unfold zm_wsC; rw [zb_nat hd, decide_eq_false (show ¬ SH d = 50 from c55)]; simp
          exact zk_reti Z hR_ hlk hK hQ G (n, M) ⟨(by unfold zm_wsA; rw [if_pos hok9, zb_nat hd, if_neg (fun q9 => q9.2 c38), hC] <;> rfl), (by rw [hC] <;> rfl)⟩ rfl dX8_worlds_214
        exfalso
        have c71 : false = true := zk_b1.mp c71
        exact absurd c71 (by decide)
      have c55 : SH d = 50 := c55
      refine lv_iload_n Z.1 Z.2.1 dX8_worlds_58 rfl (lv_at hl 3 rfl) ?_
      refine lv_if_lt (tgt := 66) Z.1 Z.2.1 dX8_worlds_59 (by decide) (fun c59 => ?_) (fun c59 => ?_)
      · have c59 : i9 < 0 := c59
        have c59n : i9 < 0 := c59
        refine lv_iconst (v := nI 0) Z.1 Z.2.1 dX8_worlds_66 (by decide +kernel) ?_
        refine W.eq (g2 := F0 mM 67 ls [.int (zk_b false)]) rfl ?_
        refine lv_istore (lv' := [(5, .int (zk_b false)), (4, .int (nI 0)), (0, .ref (b 100)), (1, .int (nI d)), (2, .int i9), (3, .int (nI m9))]) Z.1 Z.2.1 dX8_worlds_67 hl (by decide) rfl (fun ls hl => ?_)
        refine lv_iload Z.1 Z.2.1 dX8_worlds_69 (lv_at hl 0 rfl) ?_
        refine lv_if_eq (tgt := 212) Z.1 Z.2.1 dX8_worlds_71 (by decide) (fun c71 => ?_) (fun c71 => ?_)
        · have c71 : false = false := zk_b0.mp c71
          refine lv_iload Z.1 Z.2.1 dX8_worlds_212 (lv_at hl 1 rfl) ?_
          have hC : zm_wsC IT SH MN n (nI d) i9 (nI m9) = 0 := by unfold zm_wsC; rw [decide_eq_false (fun q9 : ¬ i9 < 0 => q9 c59n)]; simp
          exact zk_reti Z hR_ hlk hK hQ G (n, M) ⟨(by unfold zm_wsA; rw [if_pos hok9, zb_nat hd, if_neg (fun q9 => q9.2 (show SH d = 50 from c55)), hC] <;> rfl), (by rw [hC] <;> rfl)⟩ rfl dX8_worlds_214
        exfalso
        have c71 : false = true := zk_b1.mp c71
        exact absurd c71 (by decide)
      have c59 : ¬ i9 < 0 := c59
      have c59n : ¬ i9 < 0 := c59
      have hi0 := c59n
      obtain ⟨ip, hi, rfl⟩ := nI_of c59n
      obtain ⟨V, hV⟩ : ∃ V, V = zm_cw IT (60 * d) (MN d) m9 n ip := ⟨_, rfl⟩
      refine lv_iconst (v := nI 1) Z.1 Z.2.1 dX8_worlds_62 (by decide +kernel) ?_
      refine lv_goto (tgt := 67) Z.1 Z.2.1 dX8_worlds_63 (by decide) ?_
      refine W.eq (g2 := F0 mM 67 ls [.int (zk_b true)]) rfl ?_
      refine lv_istore (lv' := [(5, .int (zk_b true)), (4, .int (nI 0)), (0, .ref (b 100)), (1, .int (nI d)), (2, .int (nI ip)), (3, .int (nI m9))]) Z.1 Z.2.1 dX8_worlds_67 hl (by decide) rfl (fun ls hl => ?_)
      have L69 : ∀ (nN : Nat) (c : Nat) (f : Nat) (gb : Bool), f < nN → ((gb = true → zm_cw IT (60 * d) (MN d) f (n + c) (ip + 3 * c) + c = V ∧ c + f = m9) ∧ (gb = false → c = V)) → (n + c ≤ 6) → (c ≤ m9) → ∀ (H : Heap) (locs : List Loc) (ls : Array Slot), zk_G D aA [(b 100, .inr (8, [.ref (b 0), .ref (b 1), .ref (b 2), .ref (b 3), .int (m 4), .int (m 5), .int (nI (n + c)), .int (m 7), .ref (b 8), .int (m 9), .ref (b 10), .int (m 11), .int (m 12), .int (m 13), .int (m 14), .int (m 15), .int (m 16), .ref (b 17), .ref (b 18), .ref (b 19), .ref (b 20), .ref (b 21), .ref (b 22), .ref (b 23), .ref (b 24), .int (m 25), .int (m 26), .int (m 27), .int (m 28), .ref (b 29), .ref (b 30), .int (m 31), .int (m 32), .int (m 33), .int (m 34), .int (m 35), .ref (b 36), .ref (b 37), .int (m 38), .ref (b 39), .ref (b 40), .int (m 41), .int (m 42), .int (m 43), .ref (b 44), .ref (b 45), .ref (b 46), .ref (b 47)])), (b 0, .inl (g 0, 23, .inl (fun i => nI ((zm_aw IT M n (60 * d + ip) c) i)))), (b 44, .inl (g 0, 6, .inl SH)), (b 45, .inl (g 0, 6, .inl (fun i => nI (MN i)))), (b 46, .inl (g 1, 360, .inr (.inl IT)))] sS H locs → lv_has ls 7 [(0, .ref (b 100)), (1, .int (nI d)), (2, .int (nI ip)), (3, .int (nI m9)), (4, .int (nI c)), (5, .int (zk_b gb))] → W pP l eE rm_X8_worlds sS mM args below meth cC H locs 0 0 qQ (F0 mM 69 ls []) := by
        intro nN
        induction nN with
        | zero => intros; omega
        | succ nN ih69 =>
          intro c f gb hμ hgb hc6 hcm H locs ls G hl
          refine lv_iload Z.1 Z.2.1 dX8_worlds_69 (lv_at hl 5 rfl) ?_
          refine lv_if_eq (tgt := 212) Z.1 Z.2.1 dX8_worlds_71 (by decide) (fun c71 => ?_) (fun c71 => ?_)
          · have c71 : gb = false := zk_b0.mp c71
            refine lv_iload Z.1 Z.2.1 dX8_worlds_212 (lv_at hl 4 rfl) ?_
            have ecV : c = V := hgb.2 c71
            have hC : zm_wsC IT SH MN n (nI d) (nI ip) (nI m9) = c := by unfold zm_wsC; rw [hok9, zb_nat hd, decide_eq_true (show SH d = 50 from c55), decide_eq_true hi0, if_pos (by rfl), zb_nat hm9, zb_nat hi, ← hV, ecV]
            exact zk_reti Z hR_ hlk hK hQ G (n + c, zm_aw IT M n (60 * d + ip) c) ⟨(by unfold zm_wsA; rw [if_pos hok9, zb_nat hd, if_neg (fun q9 => q9.2 c55), hC]), (by rw [hC, zb_nat hd, zb_nat hi])⟩ rfl dX8_worlds_214
          have c71 : gb = true := zk_b1.mp c71
          obtain ⟨hs, hcf⟩ := hgb.1 c71
          refine lv_iload Z.1 Z.2.1 dX8_worlds_74 (lv_at hl 4 rfl) ?_
          refine lv_iload_n Z.1 Z.2.1 dX8_worlds_76 rfl (lv_at hl 3 rfl) ?_
          refine lv_icmp_ge (tgt := 212) Z.1 Z.2.1 dX8_worlds_77 (by decide) (fun c77 => ?_) (fun c77 => ?_)
          · have c77 : m9 ≤ c := zk_le (by omega) (by omega) c77
            refine lv_iload Z.1 Z.2.1 dX8_worlds_212 (lv_at hl 4 rfl) ?_
            have ecV : c = V := by have h9 := hs; rw [show f = 0 by omega] at h9; simp only [zm_cw] at h9; omega
            have hC : zm_wsC IT SH MN n (nI d) (nI ip) (nI m9) = c := by unfold zm_wsC; rw [hok9, zb_nat hd, decide_eq_true (show SH d = 50 from c55), decide_eq_true hi0, if_pos (by rfl), zb_nat hm9, zb_nat hi, ← hV, ecV]
            exact zk_reti Z hR_ hlk hK hQ G (n + c, zm_aw IT M n (60 * d + ip) c) ⟨(by unfold zm_wsA; rw [if_pos hok9, zb_nat hd, if_neg (fun q9 => q9.2 c55), hC]), (by rw [hC, zb_nat hd, zb_nat hi])⟩ rfl dX8_worlds_214
          have c77 : c < m9 := zk_nle (by omega) (by omega) c77
          obtain ⟨f9, rfl⟩ : ∃ f9, f = f9 + 1 := ⟨f - 1, by omega⟩
          refine lv_iload_n Z.1 Z.2.1 dX8_worlds_80 rfl (lv_at hl 2 rfl) ?_
          refine lv_aload_n Z.1 Z.2.1 dX8_worlds_81 rfl (lv_at hl 0 rfl) ?_
          refine zk_get (C := RX8) (T := TX8) (N := 48) (ci := 8) Z hK G hinX8 0 rfl rfl 45 (by decide) (List.mem_cons_of_mem _ wa8_29) rfl (v := .ref (b 45)) rfl dX8_worlds_82 ?_
          refine lv_iload_n Z.1 Z.2.1 dX8_worlds_85 rfl (lv_at hl 1 rfl) ?_
          refine zk_iald Z hK G 3 rfl (k := d) (by omega) (by decide) (v := nI (MN d)) rfl dX8_worlds_86 ?_
          refine lv_iconst (v := nI 3) Z.1 Z.2.1 dX8_worlds_87 (by decide +kernel) ?_
          refine zk_isub Z dX8_worlds_88 (z := nI (MN d) - nI 3) rfl ?_
          refine lv_iconst (v := nI 3) Z.1 Z.2.1 dX8_worlds_89 (by decide +kernel) ?_
          refine lv_iload Z.1 Z.2.1 dX8_worlds_90 (lv_at hl 4 rfl) ?_
          refine zk_imul Z dX8_worlds_92 (z := nI (3 * c)) (pk_mul _ _) ?_
          refine zk_isub Z dX8_worlds_93 (z := nI (MN d) - nI 3 - nI (3 * c)) rfl ?_
          refine lv_icmp_gt (tgt := 110) Z.1 Z.2.1 dX8_worlds_94 (by decide) (fun c94 => ?_) (fun c94 => ?_)
          · have hp3 : ¬ ip + 3 * c + 3 ≤ MN d := fun q9 => (Int32.not_le.mpr c94) ((zm_len3 hmd hi (by omega)).mpr q9)
            refine lv_iconst (v := nI 0) Z.1 Z.2.1 dX8_worlds_110 (by decide +kernel) ?_
            refine lv_istore (lv' := [(5, .int (nI 0)), (0, .ref (b 100)), (1, .int (nI d)), (2, .int (nI ip)), (3, .int (nI m9)), (4, .int (nI c))]) Z.1 Z.2.1 dX8_worlds_111 hl (by decide) rfl (fun ls hl => ?_)
            refine lv_bipush (v := nI 60) Z.1 Z.2.1 dX8_worlds_113 (by decide +kernel) ?_
            refine lv_iload_n Z.1 Z.2.1 dX8_worlds_115 rfl (lv_at hl 2 rfl) ?_
            refine zk_imul Z dX8_worlds_116 (z := nI (60 * d)) (pk_mul _ _) ?_
            refine lv_iload_n Z.1 Z.2.1 dX8_worlds_117 rfl (lv_at hl 3 rfl) ?_
            refine zk_iadd Z dX8_worlds_118 (z := nI (60 * d + ip)) (nI_add _ _) ?_
            refine lv_iconst (v := nI 3) Z.1 Z.2.1 dX8_worlds_119 (by decide +kernel) ?_
            refine lv_iload Z.1 Z.2.1 dX8_worlds_120 (lv_at hl 5 rfl) ?_
            refine zk_imul Z dX8_worlds_122 (z := nI (3 * c)) (pk_mul _ _) ?_
            refine zk_iadd Z dX8_worlds_123 (z := nI (60 * d + ip + (3 * c))) (nI_add _ _) ?_
            refine lv_istore (lv' := [(6, .int (nI (60 * d + ip + (3 * c)))), (5, .int (nI 0)), (0, .ref (b 100)), (1, .int (nI d)), (2, .int (nI ip)), (3, .int (nI m9)), (4, .int (nI c))]) Z.1 Z.2.1 dX8_worlds_124 hl (by decide) rfl (fun ls hl => ?_)
            refine lv_iload Z.1 Z.2.1 dX8_worlds_126 (lv_at hl 1 rfl) ?_
            refine lv_if_eq (tgt := 166) Z.1 Z.2.1 dX8_worlds_128 (by decide) (fun c128 => ?_) (fun c128 => ?_)
            · have c128 : 0 = 0 := zk_eq (by omega) (by omega) c128
              refine lv_iconst (v := nI 0) Z.1 Z.2.1 dX8_worlds_166 (by decide +kernel) ?_
              refine lv_istore (lv' := [(5, .int (nI 0)), (6, .int (nI (60 * d + ip + (3 * c)))), (0, .ref (b 100)), (1, .int (nI d)), (2, .int (nI ip)), (3, .int (nI m9)), (4, .int (nI c))]) Z.1 Z.2.1 dX8_worlds_167 hl (by decide) rfl (fun ls hl => ?_)
              refine lv_iload Z.1 Z.2.1 dX8_worlds_169 (lv_at hl 0 rfl) ?_
              refine lv_if_eq (tgt := 209) Z.1 Z.2.1 dX8_worlds_171 (by decide) (fun c171 => ?_) (fun c171 => ?_)
              · have c171 : 0 = 0 := zk_eq (by omega) (by omega) c171
                have hl : lv_has ls 7 [(5, .int (zk_b false)), (6, .int (nI (60 * d + ip + (3 * c)))), (0, .ref (b 100)), (1, .int (nI d)), (2, .int (nI ip)), (3, .int (nI m9)), (4, .int (nI c))] := hl
                refine lv_goto (tgt := 69) Z.1 Z.2.1 dX8_worlds_209 (by decide) ?_
                exact ih69 c f9 false (by omega) (by exact ⟨fun q9 => absurd q9 (by decide), fun _ => by have h9 := hs; rw [zm_cw_n (fun q9 => hp3 q9.1)] at h9; omega⟩) (by omega) (by omega) _ _ _ G (lv_sub hl [2, 3, 4, 5, 6, 0] rfl)
              exfalso
              have c171 : 0 ≠ 0 := zk_neq (by omega) (by omega) c171
              omega
            exfalso
            have c128 : 0 ≠ 0 := zk_neq (by omega) (by omega) c128
            omega
          have hp3 : ip + 3 * c + 3 ≤ MN d := (zm_len3 hmd hi (by omega)).mp (Int32.not_lt.mp c94)
          refine lv_aload_n Z.1 Z.2.1 dX8_worlds_97 rfl (lv_at hl 0 rfl) ?_
          refine zk_get (C := RX8) (T := TX8) (N := 48) (ci := 8) Z hK G hinX8 0 rfl rfl 6 (by decide) (List.mem_cons_of_mem _ wa8_40) rfl (v := .int (nI (n + c))) rfl dX8_worlds_98 ?_
          refine lv_bipush (v := nI 6) Z.1 Z.2.1 dX8_worlds_101 (by decide +kernel) ?_
          refine lv_icmp_ge (tgt := 110) Z.1 Z.2.1 dX8_worlds_103 (by decide) (fun c103 => ?_) (fun c103 => ?_)
          · have c103 : 6 ≤ n + c := zk_le (by omega) (by omega) c103
            refine lv_iconst (v := nI 0) Z.1 Z.2.1 dX8_worlds_110 (by decide +kernel) ?_
            refine lv_istore (lv' := [(5, .int (nI 0)), (0, .ref (b 100)), (1, .int (nI d)), (2, .int (nI ip)), (3, .int (nI m9)), (4, .int (nI c))]) Z.1 Z.2.1 dX8_worlds_111 hl (by decide) rfl (fun ls hl => ?_)
            refine lv_bipush (v := nI 60) Z.1 Z.2.1 dX8_worlds_113 (by decide +kernel) ?_
            refine lv_iload_n Z.1 Z.2.1 dX8_worlds_115 rfl (lv_at hl 2 rfl) ?_
            refine zk_imul Z dX8_worlds_116 (z := nI (60 * d)) (pk_mul _ _) ?_
            refine lv_iload_n Z.1 Z.2.1 dX8_worlds_117 rfl (lv_at hl 3 rfl) ?_
            refine zk_iadd Z dX8_worlds_118 (z := nI (60 * d + ip)) (nI_add _ _) ?_
            refine lv_iconst (v := nI 3) Z.1 Z.2.1 dX8_worlds_119 (by decide +kernel) ?_
            refine lv_iload Z.1 Z.2.1 dX8_worlds_120 (lv_at hl 5 rfl) ?_
            refine zk_imul Z dX8_worlds_122 (z := nI (3 * c)) (pk_mul _ _) ?_
            refine zk_iadd Z dX8_worlds_123 (z := nI (60 * d + ip + (3 * c))) (nI_add _ _) ?_
            refine lv_istore (lv' := [(6, .int (nI (60 * d + ip + (3 * c)))), (5, .int (nI 0)), (0, .ref (b 100)), (1, .int (nI d)), (2, .int (nI ip)), (3, .int (nI m9)), (4, .int (nI c))]) Z.1 Z.2.1 dX8_worlds_124 hl (by decide) rfl (fun ls hl => ?_)
            refine lv_iload Z.1 Z.2.1 dX8_worlds_126 (lv_at hl 1 rfl) ?_
            refine lv_if_eq (tgt := 166) Z.1 Z.2.1 dX8_worlds_128 (by decide) (fun c128 => ?_) (fun c128 => ?_)
            · have c128 : 0 = 0 := zk_eq (by omega) (by omega) c128
              refine lv_iconst (v := nI 0) Z.1 Z.2.1 dX8_worlds_166 (by decide +kernel) ?_
              refine lv_istore (lv' := [(5, .int (nI 0)), (6, .int (nI (60 * d + ip + (3 * c)))), (0, .ref (b 100)), (1, .int (nI d)), (2, .int (nI ip)), (3, .int (nI m9)), (4, .int (nI c))]) Z.1 Z.2.1 dX8_worlds_167 hl (by decide) rfl (fun ls hl => ?_)
              refine lv_iload Z.1 Z.2.1 dX8_worlds_169 (lv_at hl 0 rfl) ?_
              refine lv_if_eq (tgt := 209) Z.1 Z.2.1 dX8_worlds_171 (by decide) (fun c171 => ?_) (fun c171 => ?_)
              · have c171 : 0 = 0 := zk_eq (by omega) (by omega) c171
                have hl : lv_has ls 7 [(5, .int (zk_b false)), (6, .int (nI (60 * d + ip + (3 * c)))), (0, .ref (b 100)), (1, .int (nI d)), (2, .int (nI ip)), (3, .int (nI m9)), (4, .int (nI c))] := hl
                refine lv_goto (tgt := 69) Z.1 Z.2.1 dX8_worlds_209 (by decide) ?_
                exact ih69 c f9 false (by omega) (by exact ⟨fun q9 => absurd q9 (by decide), fun _ => by have h9 := hs; rw [zm_cw_n (fun q9 => absurd q9.2.1 (Nat.not_lt.mpr c103))] at h9; omega⟩) (by omega) (by omega) _ _ _ G (lv_sub hl [2, 3, 4, 5, 6, 0] rfl)
              exfalso
              have c171 : 0 ≠ 0 := zk_neq (by omega) (by omega) c171
              omega
            exfalso
            have c128 : 0 ≠ 0 := zk_neq (by omega) (by omega) c128
            omega
          have c103 : n + c < 6 := zk_nle (by omega) (by omega) c103
          refine lv_iconst (v := nI 1) Z.1 Z.2.1 dX8_worlds_106 (by decide +kernel) ?_
          refine lv_goto (tgt := 111) Z.1 Z.2.1 dX8_worlds_107 (by decide) ?_
          refine lv_istore (lv' := [(5, .int (nI 1)), (0, .ref (b 100)), (1, .int (nI d)), (2, .int (nI ip)), (3, .int (nI m9)), (4, .int (nI c))]) Z.1 Z.2.1 dX8_worlds_111 hl (by decide) rfl (fun ls hl => ?_)
          refine lv_bipush (v := nI 60) Z.1 Z.2.1 dX8_worlds_113 (by decide +kernel) ?_
          refine lv_iload_n Z.1 Z.2.1 dX8_worlds_115 rfl (lv_at hl 2 rfl) ?_
          refine zk_imul Z dX8_worlds_116 (z := nI (60 * d)) (pk_mul _ _) ?_
          refine lv_iload_n Z.1 Z.2.1 dX8_worlds_117 rfl (lv_at hl 3 rfl) ?_
          refine zk_iadd Z dX8_worlds_118 (z := nI (60 * d + ip)) (nI_add _ _) ?_
          refine lv_iconst (v := nI 3) Z.1 Z.2.1 dX8_worlds_119 (by decide +kernel) ?_
          refine lv_iload Z.1 Z.2.1 dX8_worlds_120 (lv_at hl 5 rfl) ?_
          refine zk_imul Z dX8_worlds_122 (z := nI (3 * c)) (pk_mul _ _) ?_
          refine zk_iadd Z dX8_worlds_123 (z := nI (60 * d + ip + (3 * c))) (nI_add _ _) ?_
          refine lv_istore (lv' := [(6, .int (nI (60 * d + ip + (3 * c)))), (5, .int (nI 1)), (0, .ref (b 100)), (1, .int (nI d)), (2, .int (nI ip)), (3, .int (nI m9)), (4, .int (nI c))]) Z.1 Z.2.1 dX8_worlds_124 hl (by decide) rfl (fun ls hl => ?_)
          refine lv_iload Z.1 Z.2.1 dX8_worlds_126 (lv_at hl 1 rfl) ?_
          refine lv_if_eq (tgt := 166) Z.1 Z.2.1 dX8_worlds_128 (by decide) (fun c128 => ?_) (fun c128 => ?_)
          · exfalso
            have c128 : 1 = 0 := zk_eq (by omega) (by omega) c128
            omega
          have c128 : 1 ≠ 0 := zk_neq (by omega) (by omega) c128
          refine lv_aload_n Z.1 Z.2.1 dX8_worlds_131 rfl (lv_at hl 2 rfl) ?_
          refine zk_get (C := RX8) (T := TX8) (N := 48) (ci := 8) Z hK G hinX8 0 rfl rfl 46 (by decide) (List.mem_cons_of_mem _ wa8_31) rfl (v := .ref (b 46)) rfl dX8_worlds_132 ?_
          refine lv_iload Z.1 Z.2.1 dX8_worlds_135 (lv_at hl 0 rfl) ?_
          refine zk_lald Z hK G 4 rfl (k := 60 * d + ip + (3 * c)) (by omega) (by decide) (v := IT (60 * d + ip + (3 * c))) rfl dX8_worlds_137 ?_
          refine lv_aload_n Z.1 Z.2.1 dX8_worlds_138 rfl (lv_at hl 2 rfl) ?_
          refine zk_get (C := RX8) (T := TX8) (N := 48) (ci := 8) Z hK G hinX8 0 rfl rfl 46 (by decide) (List.mem_cons_of_mem _ wa8_31) rfl (v := .ref (b 46)) rfl dX8_worlds_139 ?_
          refine lv_iload Z.1 Z.2.1 dX8_worlds_142 (lv_at hl 0 rfl) ?_
          refine lv_iconst (v := nI 1) Z.1 Z.2.1 dX8_worlds_144 (by decide +kernel) ?_
          refine zk_iadd Z dX8_worlds_145 (z := nI (60 * d + ip + (3 * c) + 1)) (nI_add _ _) ?_
          refine zk_lald Z hK G 4 rfl (k := 60 * d + ip + (3 * c) + 1) (by omega) (by decide) (v := IT (60 * d + ip + (3 * c) + 1)) rfl dX8_worlds_146 ?_
          refine lv_aload_n Z.1 Z.2.1 dX8_worlds_147 rfl (lv_at hl 2 rfl) ?_
          refine zk_get (C := RX8) (T := TX8) (N := 48) (ci := 8) Z hK G hinX8 0 rfl rfl 46 (by decide) (List.mem_cons_of_mem _ wa8_31) rfl (v := .ref (b 46)) rfl dX8_worlds_148 ?_
          refine lv_iload Z.1 Z.2.1 dX8_worlds_151 (lv_at hl 0 rfl) ?_
          refine lv_iconst (v := nI 2) Z.1 Z.2.1 dX8_worlds_153 (by decide +kernel) ?_
          refine zk_iadd Z dX8_worlds_154 (z := nI (60 * d + ip + (3 * c) + 2)) (nI_add _ _) ?_
          refine zk_lald Z hK G 4 rfl (k := 60 * d + ip + (3 * c) + 2) (by omega) (by decide) (v := IT (60 * d + ip + (3 * c) + 2)) rfl dX8_worlds_155 ?_
          refine zk_ci (WF := fun (_ : Unit) => [(b 100, .inr (8, [.ref (b 0), .ref (b 1), .ref (b 2), .ref (b 3), .int (m 4), .int (m 5), .int (nI (n + c)), .int (m 7), .ref (b 8), .int (m 9), .ref (b 10), .int (m 11), .int (m 12), .int (m 13), .int (m 14), .int (m 15), .int (m 16), .ref (b 17), .ref (b 18), .ref (b 19), .ref (b 20), .ref (b 21), .ref (b 22), .ref (b 23), .ref (b 24), .int (m 25), .int (m 26), .int (m 27), .int (m 28), .ref (b 29), .ref (b 30), .int (m 31), .int (m 32), .int (m 33), .int (m 34), .int (m 35), .ref (b 36), .ref (b 37), .int (m 38), .ref (b 39), .ref (b 40), .int (m 41), .int (m 42), .int (m 43), .ref (b 44), .ref (b 45), .ref (b 46), .ref (b 47)])), (b 0, .inl (g 0, 23, .inl (fun i => nI ((zm_aw IT M n (60 * d + ip) c) i)))), (b 44, .inl (g 0, 6, .inl SH)), (b 45, .inl (g 0, 6, .inl (fun i => nI (MN i)))), (b 46, .inl (g 1, 360, .inr (.inl IT)))]) (wr := [(b 100, .inr (8, [.ref (b 0), .ref (b 1), .ref (b 2), .ref (b 3), .int (m 4), .int (m 5), .int (nI (n + c)), .int (m 7), .ref (b 8), .int (m 9), .ref (b 10), .int (m 11), .int (m 12), .int (m 13), .int (m 14), .int (m 15), .int (m 16), .ref (b 17), .ref (b 18), .ref (b 19), .ref (b 20), .ref (b 21), .ref (b 22), .ref (b 23), .ref (b 24), .int (m 25), .int (m 26), .int (m 27), .int (m 28), .ref (b 29), .ref (b 30), .int (m 31), .int (m 32), .int (m 33), .int (m 34), .int (m 35), .ref (b 36), .ref (b 37), .int (m 38), .ref (b 39), .ref (b 40), .int (m 41), .int (m 42), .int (m 43), .ref (b 44), .ref (b 45), .ref (b 46), .ref (b 47)])), (b 0, .inl (g 0, 23, .inl (fun i => nI ((zm_aw IT M n (60 * d + ip) c) i)))), (b 44, .inl (g 0, 6, .inl SH)), (b 45, .inl (g 0, 6, .inl (fun i => nI (MN i)))), (b 46, .inl (g 1, 360, .inr (.inl IT)))]) ⟨rfl, rfl⟩ (zk_rs (As := [.long (IT (60 * d + ip + (3 * c))), .long (IT (60 * d + ip + (3 * c) + 1)), .long (IT (60 * d + ip + (3 * c) + 2))]) (rest := []) Z ((ct_X8_isOne l D g τ (IT (60 * d + ip + (3 * c))) (IT (60 * d + ip + (3 * c) + 1)) (IT (60 * d + ip + (3 * c) + 2)) ) H.size) hK hT hA G [] rfl (by decide) gmX8_worlds_X8_isOne rfl dvX8_isOne ⟨by decide, by decide⟩ rfl hl.1 rfl (Nat.le_of_ble_eq_true rfl) dX8_worlds_156 ⟨Nat.zero_le _, Nat.zero_le _⟩) hA G [] [0, 1, 2, 3, 4] [0, 1, 2, 3, 4] rfl rfl (by decide) (by decide) (by decide) (fun _ => rfl) (fun r_156 _ H locs w_156 G => ?_)
          obtain rfl : r_156 = zk_b (zm_one (IT (60 * d + ip + (3 * c))) (IT (60 * d + ip + (3 * c) + 1)) (IT (60 * d + ip + (3 * c) + 2))) := w_156
          refine lv_if_eq (tgt := 166) Z.1 Z.2.1 dX8_worlds_159 (by decide) (fun c159 => ?_) (fun c159 => ?_)
          · have c159 : (zm_one (IT (60 * d + ip + (3 * c))) (IT (60 * d + ip + (3 * c) + 1)) (IT (60 * d + ip + (3 * c) + 2))) = false := zk_b0.mp c159
            have eK9 : 60 * d + (ip + 3 * c) = 60 * d + ip + 3 * c := by omega
            refine lv_iconst (v := nI 0) Z.1 Z.2.1 dX8_worlds_166 (by decide +kernel) ?_
            refine lv_istore (lv' := [(5, .int (nI 0)), (6, .int (nI (60 * d + ip + (3 * c)))), (0, .ref (b 100)), (1, .int (nI d)), (2, .int (nI ip)), (3, .int (nI m9)), (4, .int (nI c))]) Z.1 Z.2.1 dX8_worlds_167 hl (by decide) rfl (fun ls hl => ?_)
            refine lv_iload Z.1 Z.2.1 dX8_worlds_169 (lv_at hl 0 rfl) ?_
            refine lv_if_eq (tgt := 209) Z.1 Z.2.1 dX8_worlds_171 (by decide) (fun c171 => ?_) (fun c171 => ?_)
            · have c171 : 0 = 0 := zk_eq (by omega) (by omega) c171
              have hl : lv_has ls 7 [(5, .int (zk_b false)), (6, .int (nI (60 * d + ip + (3 * c)))), (0, .ref (b 100)), (1, .int (nI d)), (2, .int (nI ip)), (3, .int (nI m9)), (4, .int (nI c))] := hl
              refine lv_goto (tgt := 69) Z.1 Z.2.1 dX8_worlds_209 (by decide) ?_
              exact ih69 c f9 false (by omega) (by exact ⟨fun q9 => absurd q9 (by decide), fun _ => by have h9 := hs; rw [zm_cw_n (fun q9 => by have h8 := q9.2.2; rw [eK9, c159] at h8; exact absurd h8 (by decide))] at h9; omega⟩) (by omega) (by omega) _ _ _ G (lv_sub hl [2, 3, 4, 5, 6, 0] rfl)
            exfalso
            have c171 : 0 ≠ 0 := zk_neq (by omega) (by omega) c171
            omega
          have c159 : (zm_one (IT (60 * d + ip + (3 * c))) (IT (60 * d + ip + (3 * c) + 1)) (IT (60 * d + ip + (3 * c) + 2))) = true := zk_b1.mp c159
          have eK9 : 60 * d + (ip + 3 * c) = 60 * d + ip + 3 * c := by omega
          have c159_0 : zm_one (IT (60 * d + (ip + 3 * c))) (IT (60 * d + (ip + 3 * c) + 1)) (IT (60 * d + (ip + 3 * c) + 2)) = true := by rw [eK9]; exact c159
          obtain ⟨p1, q1, r1, e7, e8, e9, hp1, hp2, hq1, hr1, hr2⟩ := zm_one_ex c159
          refine lv_iconst (v := nI 1) Z.1 Z.2.1 dX8_worlds_162 (by decide +kernel) ?_
          refine lv_goto (tgt := 167) Z.1 Z.2.1 dX8_worlds_163 (by decide) ?_
          refine lv_istore (lv' := [(5, .int (nI 1)), (6, .int (nI (60 * d + ip + (3 * c)))), (0, .ref (b 100)), (1, .int (nI d)), (2, .int (nI ip)), (3, .int (nI m9)), (4, .int (nI c))]) Z.1 Z.2.1 dX8_worlds_167 hl (by decide) rfl (fun ls hl => ?_)
          refine lv_iload Z.1 Z.2.1 dX8_worlds_169 (lv_at hl 0 rfl) ?_
          refine lv_if_eq (tgt := 209) Z.1 Z.2.1 dX8_worlds_171 (by decide) (fun c171 => ?_) (fun c171 => ?_)
          · exfalso
            have c171 : 1 = 0 := zk_eq (by omega) (by omega) c171
            omega
          have c171 : 1 ≠ 0 := zk_neq (by omega) (by omega) c171
          refine lv_aload_n Z.1 Z.2.1 dX8_worlds_174 rfl (lv_at hl 2 rfl) ?_
          refine lv_aload_n Z.1 Z.2.1 dX8_worlds_175 rfl (lv_at hl 2 rfl) ?_
          refine zk_get (C := RX8) (T := TX8) (N := 48) (ci := 8) Z hK G hinX8 0 rfl rfl 46 (by decide) (List.mem_cons_of_mem _ wa8_31) rfl (v := .ref (b 46)) rfl dX8_worlds_176 ?_
          refine lv_iload Z.1 Z.2.1 dX8_worlds_179 (lv_at hl 1 rfl) ?_
          refine zk_lald Z hK G 4 rfl (k := 60 * d + ip + (3 * c)) (by omega) (by decide) (v := IT (60 * d + ip + (3 * c))) rfl dX8_worlds_181 ?_
          refine lv_l2i (v := nI p1) Z.1 Z.2.1 dX8_worlds_182 (by rw [e7]; exact lN_i _) ?_
          refine lv_aload_n Z.1 Z.2.1 dX8_worlds_183 rfl (lv_at hl 2 rfl) ?_
          refine zk_get (C := RX8) (T := TX8) (N := 48) (ci := 8) Z hK G hinX8 0 rfl rfl 46 (by decide) (List.mem_cons_of_mem _ wa8_31) rfl (v := .ref (b 46)) rfl dX8_worlds_184 ?_
          refine lv_iload Z.1 Z.2.1 dX8_worlds_187 (lv_at hl 1 rfl) ?_
          refine lv_iconst (v := nI 1) Z.1 Z.2.1 dX8_worlds_189 (by decide +kernel) ?_
          refine zk_iadd Z dX8_worlds_190 (z := nI (60 * d + ip + (3 * c) + 1)) (nI_add _ _) ?_
          refine zk_lald Z hK G 4 rfl (k := 60 * d + ip + (3 * c) + 1) (by omega) (by decide) (v := IT (60 * d + ip + (3 * c) + 1)) rfl dX8_worlds_191 ?_
          refine lv_l2i (v := nI q1) Z.1 Z.2.1 dX8_worlds_192 (by rw [e8]; exact lN_i _) ?_
          refine lv_aload_n Z.1 Z.2.1 dX8_worlds_193 rfl (lv_at hl 2 rfl) ?_
          refine zk_get (C := RX8) (T := TX8) (N := 48) (ci := 8) Z hK G hinX8 0 rfl rfl 46 (by decide) (List.mem_cons_of_mem _ wa8_31) rfl (v := .ref (b 46)) rfl dX8_worlds_194 ?_
          refine lv_iload Z.1 Z.2.1 dX8_worlds_197 (lv_at hl 1 rfl) ?_
          refine lv_iconst (v := nI 2) Z.1 Z.2.1 dX8_worlds_199 (by decide +kernel) ?_
          refine zk_iadd Z dX8_worlds_200 (z := nI (60 * d + ip + (3 * c) + 2)) (nI_add _ _) ?_
          refine zk_lald Z hK G 4 rfl (k := 60 * d + ip + (3 * c) + 2) (by omega) (by decide) (v := IT (60 * d + ip + (3 * c) + 2)) rfl dX8_worlds_201 ?_
          refine lv_l2i (v := nI r1) Z.1 Z.2.1 dX8_worlds_202 (by rw [e9]; exact lN_i _) ?_
          refine zk_cv (WF := fun (_ : Unit) => [(b 100, .inr (8, [.ref (b 0), .ref (b 1), .ref (b 2), .ref (b 3), .int (m 4), .int (m 5), .int (nI ((n + c) + 1)), .int (m 7), .ref (b 8), .int (m 9), .ref (b 10), .int (m 11), .int (m 12), .int (m 13), .int (m 14), .int (m 15), .int (m 16), .ref (b 17), .ref (b 18), .ref (b 19), .ref (b 20), .ref (b 21), .ref (b 22), .ref (b 23), .ref (b 24), .int (m 25), .int (m 26), .int (m 27), .int (m 28), .ref (b 29), .ref (b 30), .int (m 31), .int (m 32), .int (m 33), .int (m 34), .int (m 35), .ref (b 36), .ref (b 37), .int (m 38), .ref (b 39), .ref (b 40), .int (m 41), .int (m 42), .int (m 43), .ref (b 44), .ref (b 45), .ref (b 46), .ref (b 47)])), (b 0, .inl (g 0, 23, .inl (fun i => nI (zs_up (zs_up (zs_up (zm_aw IT M n (60 * d + ip) c) (n + c) p1) (7 + (n + c)) q1) (14 + (n + c)) r1 i)))), (b 44, .inl (g 0, 6, .inl SH)), (b 45, .inl (g 0, 6, .inl (fun i => nI (MN i)))), (b 46, .inl (g 1, 360, .inr (.inl IT)))]) (wr := [(b 44, .inl (g 0, 6, .inl SH)), (b 45, .inl (g 0, 6, .inl (fun i => nI (MN i)))), (b 46, .inl (g 1, 360, .inr (.inl IT)))]) ⟨rfl, rfl⟩ (zk_rv (As := [.int (nI p1), .int (nI q1), .int (nI r1)]) (rest := []) (q0 := 0) (ci := 8) Z ((ct_X8_adds l D g τ b m (n + c) (zm_aw IT M n (60 * d + ip) c) p1 q1 r1 (by omega)) H.size) hK hT hA G [0, 1] rfl (by decide) rfl rfl gmX8_worlds_X8_adds rfl dvX8_adds ⟨by decide, by decide⟩ rfl hl.1 rfl (Nat.le_of_ble_eq_true rfl) dX8_worlds_203 ⟨Nat.zero_le _, Nat.zero_le _⟩) hA G [0, 1] [2, 3, 4] [3, 4, 0, 1, 2] rfl rfl (by decide) (by decide) (by decide) (fun _ => rfl) (fun _ H locs w_203 G => ?_)
          have e79 : (IT (60 * d + ip + 3 * c)).toInt32.toInt.toNat = p1 := by rw [e7, lN_i, zb_nat (by omega)]
          have e89 : (IT (60 * d + ip + 3 * c + 1)).toInt32.toInt.toNat = q1 := by rw [e8, lN_i, zb_nat (by omega)]
          have e99 : (IT (60 * d + ip + 3 * c + 2)).toInt32.toInt.toNat = r1 := by rw [e9, lN_i, zb_nat (by omega)]
          have eA9 : zm_aw IT M n (60 * d + ip) (c + 1) = zm_add (zm_aw IT M n (60 * d + ip) c) (n + c) p1 q1 r1 := by rw [← e79, ← e89, ← e99]; rfl
          have G : zk_G D aA [(b 100, .inr (8, [.ref (b 0), .ref (b 1), .ref (b 2), .ref (b 3), .int (m 4), .int (m 5), .int (nI (n + (c + 1))), .int (m 7), .ref (b 8), .int (m 9), .ref (b 10), .int (m 11), .int (m 12), .int (m 13), .int (m 14), .int (m 15), .int (m 16), .ref (b 17), .ref (b 18), .ref (b 19), .ref (b 20), .ref (b 21), .ref (b 22), .ref (b 23), .ref (b 24), .int (m 25), .int (m 26), .int (m 27), .int (m 28), .ref (b 29), .ref (b 30), .int (m 31), .int (m 32), .int (m 33), .int (m 34), .int (m 35), .ref (b 36), .ref (b 37), .int (m 38), .ref (b 39), .ref (b 40), .int (m 41), .int (m 42), .int (m 43), .ref (b 44), .ref (b 45), .ref (b 46), .ref (b 47)])), (b 0, .inl (g 0, 23, .inl (fun i => nI ((zm_aw IT M n (60 * d + ip) (c + 1)) i)))), (b 44, .inl (g 0, 6, .inl SH)), (b 45, .inl (g 0, 6, .inl (fun i => nI (MN i)))), (b 46, .inl (g 1, 360, .inr (.inl IT)))] sS H locs := (by rw [eA9]; exact G)
          refine lv_iinc (v := nI (c + 1)) (lv' := [(4, .int (nI (c + 1))), (5, .int (nI 1)), (6, .int (nI (60 * d + ip + (3 * c)))), (0, .ref (b 100)), (1, .int (nI d)), (2, .int (nI ip)), (3, .int (nI m9))]) Z.1 Z.2.1 dX8_worlds_206 hl (k := 6) rfl (zk_inc c 1) (by decide) rfl (fun ls hl => ?_)
          have hl : lv_has ls 7 [(4, .int (nI (c + 1))), (5, .int (zk_b true)), (6, .int (nI (60 * d + ip + (3 * c)))), (0, .ref (b 100)), (1, .int (nI d)), (2, .int (nI ip)), (3, .int (nI m9))] := hl
          refine lv_goto (tgt := 69) Z.1 Z.2.1 dX8_worlds_209 (by decide) ?_
          exact ih69 (c + 1) f9 true (by omega) (by exact ⟨fun _ => ⟨by have h9 := hs; rw [zm_cw_y hp3 c103 c159_0] at h9; rw [show n + (c + 1) = n + c + 1 by omega, show ip + 3 * (c + 1) = ip + 3 * c + 3 by omega]; omega, by omega⟩, fun q9 => absurd q9 (by decide)⟩) (by omega) (by omega) _ _ _ G (lv_sub hl [3, 4, 5, 6, 0, 1] rfl)
      exact L69 _ 0 m9 true (Nat.lt_succ_self _) (by exact ⟨fun _ => ⟨hV.symm, by omega⟩, fun q9 => absurd q9 (by decide)⟩) (by omega) (by omega) _ _ _ G (lv_sub hl [2, 3, 4, 5, 1, 0] rfl)
    have c38 : ¬ SH d = 50 := c38
    have c38 : ¬ SH d = 50 := c38
    refine lv_bipush (v := (-12)) Z.1 Z.2.1 dX8_worlds_41 (by decide +kernel) ?_
    have hC : zm_wsC IT SH MN n (nI d) i9 (nI m9) = 0 := by unfold zm_wsC; rw [zb_nat hd, decide_eq_false (show ¬ SH d = 50 from c38)]; simp
    exact zk_reti Z hR_ hlk hK hQ G (n, M) ⟨(by unfold zm_wsA; rw [if_pos hok9, zb_nat hd, if_pos ⟨Int32.not_lt.mp c27, c38⟩]), (by rw [hC] <;> rfl)⟩ rfl dX8_worlds_43
  have c16 : (zm_in nn.toInt64 (lN 1) (lN 6)) = false := zk_b0.mp c16
  refine lv_iconst (v := (-1)) Z.1 Z.2.1 dX8_worlds_19 (by decide +kernel) ?_
  have hO : zm_wsOk (nI d) nn = false := by unfold zm_wsOk; rw [c16]; simp
  have hC : zm_wsC IT SH MN n (nI d) i9 nn = 0 := by unfold zm_wsC; rw [hO]; rfl
  exact zk_reti Z hR_ hlk hK hQ G (n, M) ⟨(by unfold zm_wsA; rw [hO]; rfl), (by rw [hC]; rfl)⟩ rfl dX8_worlds_20

abbrev rm_X8_send : Room := { frames := 3, cells := 0, slots := 0, locals := 67 }
theorem dvX8_send : zk_dv yX8_send RX8 1 := by decide +kernel
theorem gmX8_send_X8_isPq : GoodIn wmX8_send (wsV RX8 220 RX8 yX8_isPq wmX8_isPq) := goodIn_app (wa8_w (List.forall_mem_cons.mpr ⟨wa8_159, List.forall_mem_cons.mpr ⟨wa8_160, List.forall_mem_cons.mpr ⟨wa8_161, List.forall_mem_cons.mpr ⟨wa8_43, fun _ h => absurd h List.not_mem_nil⟩⟩⟩⟩)) (wa8_sub wa8_44)
set_option maxRecDepth 100000 in
set_option maxHeartbeats 400000 in
theorem ct_X8_send (l : Launch) (D : va_G) (g : Nat → ClassId) (τ : Nat → Nat) (b : Nat → Nat) (m : Nat → Int32) (n : Nat) (m1 : Nat) (MS : Nat → Int32) (pq : Int32) (hn : n ≤ 7) (hm1 : m1 ≤ 10) : zk_MI l D g τ yX8_send wmX8_send rm_X8_send [.ref (b 100), .int pq] [(b 100, .inr (8, [.ref (b 0), .ref (b 1), .ref (b 2), .ref (b 3), .int (m 4), .int (m 5), .int (nI n), .int (m 7), .ref (b 8), .int (m 9), .ref (b 10), .int (m 11), .int (m 12), .int (m 13), .int (m 14), .int (m 15), .int (m 16), .ref (b 17), .ref (b 18), .ref (b 19), .ref (b 20), .ref (b 21), .ref (b 22), .ref (b 23), .ref (b 24), .int (m 25), .int (m 26), .int (m 27), .int (nI m1), .ref (b 29), .ref (b 30), .int (m 31), .int (m 32), .int (m 33), .int (m 34), .int (m 35), .ref (b 36), .ref (b 37), .int (m 38), .ref (b 39), .ref (b 40), .int (m 41), .int (m 42), .int (m 43), .ref (b 44), .ref (b 45), .ref (b 46), .ref (b 47)])), (b 29, .inl (g 0, 40, .inl MS))] (fun (r : Int32) (_ : Unit) => r = zu_send n m1 pq) (fun (_ : Unit) => [(b 100, .inr (8, [.ref (b 0), .ref (b 1), .ref (b 2), .ref (b 3), .int (m 4), .int (m 5), .int (nI n), .int (m 7), .ref (b 8), .int (m 9), .ref (b 10), .int (m 11), .int (m 12), .int (m 13), .int (m 14), .int (m 15), .int (m 16), .ref (b 17), .ref (b 18), .ref (b 19), .ref (b 20), .ref (b 21), .ref (b 22), .ref (b 23), .ref (b 24), .int (m 25), .int (m 26), .int (m 27), .int (nI (if (zb_pair n pq && decide (m1 < 10)) = true then m1 + 1 else m1)), .ref (b 29), .ref (b 30), .int (m 31), .int (m 32), .int (m 33), .int (m 34), .int (m 35), .ref (b 36), .ref (b 37), .int (m 38), .ref (b 39), .ref (b 40), .int (m 41), .int (m 42), .int (m 43), .ref (b 44), .ref (b 45), .ref (b 46), .ref (b 47)])), (b 29, .inl (g 0, 40, .inl (if (zb_pair n pq && decide (m1 < 10)) = true then zm_snd MS m1 (zu_p pq) (zu_q pq) else MS)))]) := by
  refine zk_of (av := [.ref (b 100), .int pq]) (W0 := [(b 100, .inr (8, [.ref (b 0), .ref (b 1), .ref (b 2), .ref (b 3), .int (m 4), .int (m 5), .int (nI n), .int (m 7), .ref (b 8), .int (m 9), .ref (b 10), .int (m 11), .int (m 12), .int (m 13), .int (m 14), .int (m 15), .int (m 16), .ref (b 17), .ref (b 18), .ref (b 19), .ref (b 20), .ref (b 21), .ref (b 22), .ref (b 23), .ref (b 24), .int (m 25), .int (m 26), .int (m 27), .int (nI m1), .ref (b 29), .ref (b 30), .int (m 31), .int (m 32), .int (m 33), .int (m 34), .int (m 35), .ref (b 36), .ref (b 37), .int (m 38), .ref (b 39), .ref (b 40), .int (m 41), .int (m 42), .int (m 43), .ref (b 44), .ref (b 45), .ref (b 46), .ref (b 47)])), (b 29, .inl (g 0, 40, .inl MS))]) (y := yX8_send) (wd := wmX8_send) (Qc := fun A => va_Qi (fun (r : Int32) (_ : Unit) => r = zu_send n m1 pq) (zk_B D g A (fun (_ : Unit) => [(b 100, .inr (8, [.ref (b 0), .ref (b 1), .ref (b 2), .ref (b 3), .int (m 4), .int (m 5), .int (nI n), .int (m 7), .ref (b 8), .int (m 9), .ref (b 10), .int (m 11), .int (m 12), .int (m 13), .int (m 14), .int (m 15), .int (m 16), .ref (b 17), .ref (b 18), .ref (b 19), .ref (b 20), .ref (b 21), .ref (b 22), .ref (b 23), .ref (b 24), .int (m 25), .int (m 26), .int (m 27), .int (nI (if (zb_pair n pq && decide (m1 < 10)) = true then m1 + 1 else m1)), .ref (b 29), .ref (b 30), .int (m 31), .int (m 32), .int (m 33), .int (m 34), .int (m 35), .ref (b 36), .ref (b 37), .int (m 38), .ref (b 39), .ref (b 40), .int (m 41), .int (m 42), .int (m 43), .ref (b 44), .ref (b 45), .ref (b 46), .ref (b 47)])), (b 29, .inl (g 0, 40, .inl (if (zb_pair n pq && decide (m1 < 10)) = true then zm_snd MS m1 (zu_p pq) (zu_q pq) else MS)))])) A) (cc := cX8_send) (maxL := 2) (ret := (some .int)) (own := RX8) (by decide) rfl rfl (Nat.le_of_ble_eq_true rfl) ?_
  intro pP eE sS mM args below meth cC aA ls qQ Z hR_ hlk hnm hK hT hA hQ G hl
  have hinX8 : ∀ w ∈ u_ws RX8 TX8 48, w ∈ wmX8_send := wa8_in
  refine lv_aload_n Z.1 Z.2.1 dX8_send_0 rfl (lv_at hl 0 rfl) ?_
  refine lv_iload_n Z.1 Z.2.1 dX8_send_1 rfl (lv_at hl 1 rfl) ?_
  refine zk_ci (WF := fun (_ : Unit) => [(b 100, .inr (8, [.ref (b 0), .ref (b 1), .ref (b 2), .ref (b 3), .int (m 4), .int (m 5), .int (nI n), .int (m 7), .ref (b 8), .int (m 9), .ref (b 10), .int (m 11), .int (m 12), .int (m 13), .int (m 14), .int (m 15), .int (m 16), .ref (b 17), .ref (b 18), .ref (b 19), .ref (b 20), .ref (b 21), .ref (b 22), .ref (b 23), .ref (b 24), .int (m 25), .int (m 26), .int (m 27), .int (nI m1), .ref (b 29), .ref (b 30), .int (m 31), .int (m 32), .int (m 33), .int (m 34), .int (m 35), .ref (b 36), .ref (b 37), .int (m 38), .ref (b 39), .ref (b 40), .int (m 41), .int (m 42), .int (m 43), .ref (b 44), .ref (b 45), .ref (b 46), .ref (b 47)])), (b 29, .inl (g 0, 40, .inl MS))]) (wr := [(b 29, .inl (g 0, 40, .inl MS))]) ⟨rfl, rfl⟩ (zk_rv (As := [.int pq]) (rest := []) (q0 := 0) (ci := 8) Z ((ct_X8_isPq l D g τ b (upd m 28 (nI m1)) n pq (by exact hn)) sS.heap.size) hK hT hA G [0] rfl (by decide) rfl rfl gmX8_send_X8_isPq rfl dvX8_isPq ⟨by decide, by decide⟩ rfl hl.1 rfl (Nat.le_of_ble_eq_true rfl) dX8_send_2 ⟨Nat.zero_le _, Nat.zero_le _⟩) hA G [0] [1] [1, 0] rfl rfl (by decide) (by decide) (by decide) (fun _ => rfl) (fun r_2 _ H locs w_2 G => ?_)
  obtain rfl : r_2 = zk_b (zb_pair n pq) := w_2
  refine lv_if_ne (tgt := 10) Z.1 Z.2.1 dX8_send_5 (by decide) (fun c5 => ?_) (fun c5 => ?_)
  · have c5 : (zb_pair n pq) = true := zk_b1.mp c5
    have c5_0 := c5
    obtain ⟨j, hj, rfl, hj2⟩ := zb_pair_ex c5
    refine lv_aload_n Z.1 Z.2.1 dX8_send_10 rfl (lv_at hl 0 rfl) ?_
    refine zk_get (C := RX8) (T := TX8) (N := 48) (ci := 8) Z hK G hinX8 0 rfl rfl 28 (by decide) (List.mem_cons_of_mem _ wa8_82) rfl (v := .int (nI m1)) rfl dX8_send_11 ?_
    refine lv_bipush (v := nI 10) Z.1 Z.2.1 dX8_send_14 (by decide +kernel) ?_
    refine lv_icmp_ne (tgt := 22) Z.1 Z.2.1 dX8_send_16 (by decide) (fun c16 => ?_) (fun c16 => ?_)
    · have c16 : m1 ≠ 10 := zk_neq (by omega) (by omega) c16
      refine lv_aload_n Z.1 Z.2.1 dX8_send_22 rfl (lv_at hl 0 rfl) ?_
      refine zk_get (C := RX8) (T := TX8) (N := 48) (ci := 8) Z hK G hinX8 0 rfl rfl 29 (by decide) (List.mem_cons_of_mem _ wa8_22) rfl (v := .ref (b 29)) rfl dX8_send_23 ?_
      refine lv_iconst (v := nI 4) Z.1 Z.2.1 dX8_send_26 (by decide +kernel) ?_
      refine lv_aload_n Z.1 Z.2.1 dX8_send_27 rfl (lv_at hl 0 rfl) ?_
      refine zk_get (C := RX8) (T := TX8) (N := 48) (ci := 8) Z hK G hinX8 0 rfl rfl 28 (by decide) (List.mem_cons_of_mem _ wa8_82) rfl (v := .int (nI m1)) rfl dX8_send_28 ?_
      refine zk_imul Z dX8_send_31 (z := nI (4 * m1)) (pk_mul _ _) ?_
      refine lv_iload_n Z.1 Z.2.1 dX8_send_32 rfl (lv_at hl 1 rfl) ?_
      refine lv_bipush (v := nI 10) Z.1 Z.2.1 dX8_send_33 (by decide +kernel) ?_
      refine zk_idiv Z dX8_send_35 (nI_ne0 (by omega) (by omega)) (z := nI (j / 10)) (pk_div (by omega) (by omega) (by omega)) ?_
      refine zk_iast Z hK G 1 rfl (k := 4 * m1) (by omega) (by decide) rfl (ws' := [(b 100, .inr (8, [.ref (b 0), .ref (b 1), .ref (b 2), .ref (b 3), .int (m 4), .int (m 5), .int (nI n), .int (m 7), .ref (b 8), .int (m 9), .ref (b 10), .int (m 11), .int (m 12), .int (m 13), .int (m 14), .int (m 15), .int (m 16), .ref (b 17), .ref (b 18), .ref (b 19), .ref (b 20), .ref (b 21), .ref (b 22), .ref (b 23), .ref (b 24), .int (m 25), .int (m 26), .int (m 27), .int (nI m1), .ref (b 29), .ref (b 30), .int (m 31), .int (m 32), .int (m 33), .int (m 34), .int (m 35), .ref (b 36), .ref (b 37), .int (m 38), .ref (b 39), .ref (b 40), .int (m 41), .int (m 42), .int (m 43), .ref (b 44), .ref (b 45), .ref (b 46), .ref (b 47)])), (b 29, .inl (g 0, 40, .inl (upd MS (4 * m1) (nI (j / 10)))))]) rfl dX8_send_36 (fun H locs G => ?_)
      refine lv_aload_n Z.1 Z.2.1 dX8_send_37 rfl (lv_at hl 0 rfl) ?_
      refine zk_get (C := RX8) (T := TX8) (N := 48) (ci := 8) Z hK G hinX8 0 rfl rfl 29 (by decide) (List.mem_cons_of_mem _ wa8_22) rfl (v := .ref (b 29)) rfl dX8_send_38 ?_
      refine lv_iconst (v := nI 4) Z.1 Z.2.1 dX8_send_41 (by decide +kernel) ?_
      refine lv_aload_n Z.1 Z.2.1 dX8_send_42 rfl (lv_at hl 0 rfl) ?_
      refine zk_get (C := RX8) (T := TX8) (N := 48) (ci := 8) Z hK G hinX8 0 rfl rfl 28 (by decide) (List.mem_cons_of_mem _ wa8_82) rfl (v := .int (nI m1)) rfl dX8_send_43 ?_
      refine zk_imul Z dX8_send_46 (z := nI (4 * m1)) (pk_mul _ _) ?_
      refine lv_iconst (v := nI 1) Z.1 Z.2.1 dX8_send_47 (by decide +kernel) ?_
      refine zk_iadd Z dX8_send_48 (z := nI (4 * m1 + 1)) (nI_add _ _) ?_
      refine lv_iload_n Z.1 Z.2.1 dX8_send_49 rfl (lv_at hl 1 rfl) ?_
      refine lv_bipush (v := nI 10) Z.1 Z.2.1 dX8_send_50 (by decide +kernel) ?_
      refine zk_irem Z dX8_send_52 (nI_ne0 (by omega) (by omega)) (z := nI (j % 10)) (pk_rem (by omega) (by omega) (by omega)) ?_
      refine zk_iast Z hK G 1 rfl (k := 4 * m1 + 1) (by omega) (by decide) rfl (ws' := [(b 100, .inr (8, [.ref (b 0), .ref (b 1), .ref (b 2), .ref (b 3), .int (m 4), .int (m 5), .int (nI n), .int (m 7), .ref (b 8), .int (m 9), .ref (b 10), .int (m 11), .int (m 12), .int (m 13), .int (m 14), .int (m 15), .int (m 16), .ref (b 17), .ref (b 18), .ref (b 19), .ref (b 20), .ref (b 21), .ref (b 22), .ref (b 23), .ref (b 24), .int (m 25), .int (m 26), .int (m 27), .int (nI m1), .ref (b 29), .ref (b 30), .int (m 31), .int (m 32), .int (m 33), .int (m 34), .int (m 35), .ref (b 36), .ref (b 37), .int (m 38), .ref (b 39), .ref (b 40), .int (m 41), .int (m 42), .int (m 43), .ref (b 44), .ref (b 45), .ref (b 46), .ref (b 47)])), (b 29, .inl (g 0, 40, .inl (upd (upd MS (4 * m1) (nI (j / 10))) (4 * m1 + 1) (nI (j % 10)))))]) rfl dX8_send_53 (fun H locs G => ?_)
      refine lv_aload_n Z.1 Z.2.1 dX8_send_54 rfl (lv_at hl 0 rfl) ?_
      refine zk_get (C := RX8) (T := TX8) (N := 48) (ci := 8) Z hK G hinX8 0 rfl rfl 29 (by decide) (List.mem_cons_of_mem _ wa8_22) rfl (v := .ref (b 29)) rfl dX8_send_55 ?_
      refine lv_iconst (v := nI 4) Z.1 Z.2.1 dX8_send_58 (by decide +kernel) ?_
      refine lv_aload_n Z.1 Z.2.1 dX8_send_59 rfl (lv_at hl 0 rfl) ?_
      refine zk_get (C := RX8) (T := TX8) (N := 48) (ci := 8) Z hK G hinX8 0 rfl rfl 28 (by decide) (List.mem_cons_of_mem _ wa8_82) rfl (v := .int (nI m1)) rfl dX8_send_60 ?_
      refine zk_imul Z dX8_send_63 (z := nI (4 * m1)) (pk_mul _ _) ?_
      refine lv_iconst (v := nI 2) Z.1 Z.2.1 dX8_send_64 (by decide +kernel) ?_
      refine zk_iadd Z dX8_send_65 (z := nI (4 * m1 + 2)) (nI_add _ _) ?_
      refine lv_iload_n Z.1 Z.2.1 dX8_send_66 rfl (lv_at hl 1 rfl) ?_
      refine lv_bipush (v := nI 10) Z.1 Z.2.1 dX8_send_67 (by decide +kernel) ?_
      refine zk_idiv Z dX8_send_69 (nI_ne0 (by omega) (by omega)) (z := nI (j / 10)) (pk_div (by omega) (by omega) (by omega)) ?_
      refine zk_iast Z hK G 1 rfl (k := 4 * m1 + 2) (by omega) (by decide) rfl (ws' := [(b 100, .inr (8, [.ref (b 0), .ref (b 1), .ref (b 2), .ref (b 3), .int (m 4), .int (m 5), .int (nI n), .int (m 7), .ref (b 8), .int (m 9), .ref (b 10), .int (m 11), .int (m 12), .int (m 13), .int (m 14), .int (m 15), .int (m 16), .ref (b 17), .ref (b 18), .ref (b 19), .ref (b 20), .ref (b 21), .ref (b 22), .ref (b 23), .ref (b 24), .int (m 25), .int (m 26), .int (m 27), .int (nI m1), .ref (b 29), .ref (b 30), .int (m 31), .int (m 32), .int (m 33), .int (m 34), .int (m 35), .ref (b 36), .ref (b 37), .int (m 38), .ref (b 39), .ref (b 40), .int (m 41), .int (m 42), .int (m 43), .ref (b 44), .ref (b 45), .ref (b 46), .ref (b 47)])), (b 29, .inl (g 0, 40, .inl (upd (upd (upd MS (4 * m1) (nI (j / 10))) (4 * m1 + 1) (nI (j % 10))) (4 * m1 + 2) (nI (j / 10)))))]) rfl dX8_send_70 (fun H locs G => ?_)
      refine lv_aload_n Z.1 Z.2.1 dX8_send_71 rfl (lv_at hl 0 rfl) ?_
      refine zk_get (C := RX8) (T := TX8) (N := 48) (ci := 8) Z hK G hinX8 0 rfl rfl 29 (by decide) (List.mem_cons_of_mem _ wa8_22) rfl (v := .ref (b 29)) rfl dX8_send_72 ?_
      refine lv_iconst (v := nI 4) Z.1 Z.2.1 dX8_send_75 (by decide +kernel) ?_
      refine lv_aload_n Z.1 Z.2.1 dX8_send_76 rfl (lv_at hl 0 rfl) ?_
      refine zk_get (C := RX8) (T := TX8) (N := 48) (ci := 8) Z hK G hinX8 0 rfl rfl 28 (by decide) (List.mem_cons_of_mem _ wa8_82) rfl (v := .int (nI m1)) rfl dX8_send_77 ?_
      refine zk_imul Z dX8_send_80 (z := nI (4 * m1)) (pk_mul _ _) ?_
      refine lv_iconst (v := nI 3) Z.1 Z.2.1 dX8_send_81 (by decide +kernel) ?_
      refine zk_iadd Z dX8_send_82 (z := nI (4 * m1 + 3)) (nI_add _ _) ?_
      refine lv_bipush (v := (-2)) Z.1 Z.2.1 dX8_send_83 (by decide +kernel) ?_
      refine zk_iast Z hK G 1 rfl (k := 4 * m1 + 3) (by omega) (by decide) rfl (ws' := [(b 100, .inr (8, [.ref (b 0), .ref (b 1), .ref (b 2), .ref (b 3), .int (m 4), .int (m 5), .int (nI n), .int (m 7), .ref (b 8), .int (m 9), .ref (b 10), .int (m 11), .int (m 12), .int (m 13), .int (m 14), .int (m 15), .int (m 16), .ref (b 17), .ref (b 18), .ref (b 19), .ref (b 20), .ref (b 21), .ref (b 22), .ref (b 23), .ref (b 24), .int (m 25), .int (m 26), .int (m 27), .int (nI m1), .ref (b 29), .ref (b 30), .int (m 31), .int (m 32), .int (m 33), .int (m 34), .int (m 35), .ref (b 36), .ref (b 37), .int (m 38), .ref (b 39), .ref (b 40), .int (m 41), .int (m 42), .int (m 43), .ref (b 44), .ref (b 45), .ref (b 46), .ref (b 47)])), (b 29, .inl (g 0, 40, .inl (upd (upd (upd (upd MS (4 * m1) (nI (j / 10))) (4 * m1 + 1) (nI (j % 10))) (4 * m1 + 2) (nI (j / 10))) (4 * m1 + 3) (-2))))]) rfl dX8_send_85 (fun H locs G => ?_)
      refine lv_aload_n Z.1 Z.2.1 dX8_send_86 rfl (lv_at hl 0 rfl) ?_
      refine lv_dup Z.1 Z.2.1 dX8_send_87 rfl ?_
      refine zk_get (C := RX8) (T := TX8) (N := 48) (ci := 8) Z hK G hinX8 0 rfl rfl 28 (by decide) (List.mem_cons_of_mem _ wa8_82) rfl (v := .int (nI m1)) rfl dX8_send_88 ?_
      refine lv_iconst (v := nI 1) Z.1 Z.2.1 dX8_send_91 (by decide +kernel) ?_
      refine zk_iadd Z dX8_send_92 (z := nI (m1 + 1)) (nI_add _ _) ?_
      refine zk_put tyX8 tyX8_ok nmX8 (C := RX8) (T := TX8) (N := 48) (ci := 8) Z hK G hinX8 0 rfl rfl 28 (by decide) (List.mem_cons_of_mem _ wa8_82) rfl rfl rfl rfl (Nat.le_of_ble_eq_true rfl) (ws' := [(b 100, .inr (8, [.ref (b 0), .ref (b 1), .ref (b 2), .ref (b 3), .int (m 4), .int (m 5), .int (nI n), .int (m 7), .ref (b 8), .int (m 9), .ref (b 10), .int (m 11), .int (m 12), .int (m 13), .int (m 14), .int (m 15), .int (m 16), .ref (b 17), .ref (b 18), .ref (b 19), .ref (b 20), .ref (b 21), .ref (b 22), .ref (b 23), .ref (b 24), .int (m 25), .int (m 26), .int (m 27), .int (nI (m1 + 1)), .ref (b 29), .ref (b 30), .int (m 31), .int (m 32), .int (m 33), .int (m 34), .int (m 35), .ref (b 36), .ref (b 37), .int (m 38), .ref (b 39), .ref (b 40), .int (m 41), .int (m 42), .int (m 43), .ref (b 44), .ref (b 45), .ref (b 46), .ref (b 47)])), (b 29, .inl (g 0, 40, .inl (upd (upd (upd (upd MS (4 * m1) (nI (j / 10))) (4 * m1 + 1) (nI (j % 10))) (4 * m1 + 2) (nI (j / 10))) (4 * m1 + 3) (-2))))]) rfl dX8_send_93 (fun H locs G => ?_)
      refine lv_aload_n Z.1 Z.2.1 dX8_send_96 rfl (lv_at hl 0 rfl) ?_
      refine zk_get (C := RX8) (T := TX8) (N := 48) (ci := 8) Z hK G hinX8 0 rfl rfl 28 (by decide) (List.mem_cons_of_mem _ wa8_82) rfl (v := .int (nI (m1 + 1))) rfl dX8_send_97 ?_
      refine lv_iconst (v := nI 1) Z.1 Z.2.1 dX8_send_100 (by decide +kernel) ?_
      refine zk_isub Z dX8_send_101 (z := nI ((m1 + 1) - 1)) (pk_sub (by omega)) ?_
      exact zk_reti Z hR_ hlk hK hQ G () (by unfold zu_send; rw [if_pos c5_0, if_pos (show m1 < 10 by omega)]; rfl) (by rw [if_pos (show (zb_pair n (nI j) && decide (m1 < 10)) = true by rw [c5_0, decide_eq_true (show m1 < 10 by omega)]; rfl), if_pos (show (zb_pair n (nI j) && decide (m1 < 10)) = true by rw [c5_0, decide_eq_true (show m1 < 10 by omega)]; rfl), zu_pn hj, zu_qn hj]; rfl) dX8_send_102
    have c16 : m1 = 10 := zk_eq (by omega) (by omega) c16
    refine lv_bipush (v := (-3)) Z.1 Z.2.1 dX8_send_19 (by decide +kernel) ?_
    exact zk_reti Z hR_ hlk hK hQ G () (by unfold zu_send; rw [if_pos c5_0, if_neg (show ¬ m1 < 10 by omega)]) (by rw [if_neg (show ¬ (zb_pair n (nI j) && decide (m1 < 10)) = true by rw [decide_eq_false (show ¬ m1 < 10 by omega)]; simp), if_neg (show ¬ (zb_pair n (nI j) && decide (m1 < 10)) = true by rw [decide_eq_false (show ¬ m1 < 10 by omega)]; simp)]) dX8_send_21
  have c5 : (zb_pair n pq) = false := zk_b0.mp c5
  refine lv_iconst (v := (-1)) Z.1 Z.2.1 dX8_send_8 (by decide +kernel) ?_
  exact zk_reti Z hR_ hlk hK hQ G () (by unfold zu_send; rw [c5]; rfl) (by rw [if_neg (show ¬ (zb_pair n pq && decide (m1 < 10)) = true by rw [c5]; simp), if_neg (show ¬ (zb_pair n pq && decide (m1 < 10)) = true by rw [c5]; simp)]) dX8_send_9

abbrev rm_X8_image : Room := { frames := 0, cells := 0, slots := 0, locals := 0 }
theorem dvX8_image : zk_dv yX8_image RX8 0 := by decide +kernel
set_option maxRecDepth 100000 in
set_option maxHeartbeats 400000 in
theorem ct_X8_image (l : Launch) (D : va_G) (g : Nat → ClassId) (τ : Nat → Nat) (b : Nat → Nat) (m : Nat → Int32) (n : Nat) (now : Nat) (m1 : Nat) (ik : Bool) (iw : Nat) (inow : Nat) (im : Nat) (MS : Nat → Int32) (HD : Nat → Nat) (IM : Nat → Int32) (IH : Nat → Nat)  : zk_MI l D g τ yX8_image wmX8_image rm_X8_image [.ref (b 100)] [(b 100, .inr (8, [.ref (b 0), .ref (b 1), .ref (b 2), .ref (b 3), .int (m 4), .int (m 5), .int (nI n), .int (nI now), .ref (b 8), .int (m 9), .ref (b 10), .int (m 11), .int (m 12), .int (m 13), .int (m 14), .int (m 15), .int (m 16), .ref (b 17), .ref (b 18), .ref (b 19), .ref (b 20), .ref (b 21), .ref (b 22), .ref (b 23), .ref (b 24), .int (m 25), .int (m 26), .int (m 27), .int (nI m1), .ref (b 29), .ref (b 30), .int (m 31), .int (zk_b ik), .int (nI iw), .int (nI inow), .int (nI im), .ref (b 36), .ref (b 37), .int (m 38), .ref (b 39), .ref (b 40), .int (m 41), .int (m 42), .int (m 43), .ref (b 44), .ref (b 45), .ref (b 46), .ref (b 47)])), (b 29, .inl (g 0, 40, .inl MS)), (b 30, .inl (g 0, 6, .inl (fun i => nI (HD i)))), (b 36, .inl (g 0, 40, .inl IM)), (b 37, .inl (g 0, 6, .inl (fun i => nI (IH i))))] (fun (r : Int32) (_ : Unit) => r = nI now) (fun (_ : Unit) => [(b 100, .inr (8, [.ref (b 0), .ref (b 1), .ref (b 2), .ref (b 3), .int (m 4), .int (m 5), .int (nI n), .int (nI now), .ref (b 8), .int (m 9), .ref (b 10), .int (m 11), .int (m 12), .int (m 13), .int (m 14), .int (m 15), .int (m 16), .ref (b 17), .ref (b 18), .ref (b 19), .ref (b 20), .ref (b 21), .ref (b 22), .ref (b 23), .ref (b 24), .int (m 25), .int (m 26), .int (m 27), .int (nI m1), .ref (b 29), .ref (b 30), .int (m 31), .int (zk_b true), .int (nI n), .int (nI now), .int (nI m1), .ref (b 36), .ref (b 37), .int (m 38), .ref (b 39), .ref (b 40), .int (m 41), .int (m 42), .int (m 43), .ref (b 44), .ref (b 45), .ref (b 46), .ref (b 47)])), (b 29, .inl (g 0, 40, .inl MS)), (b 30, .inl (g 0, 6, .inl (fun i => nI (HD i)))), (b 36, .inl (g 0, 40, .inl (zs_fill MS IM 40))), (b 37, .inl (g 0, 6, .inl (fun i => nI ((zs_fill HD IH 6) i))))]) := by
  refine zk_of (av := [.ref (b 100)]) (W0 := [(b 100, .inr (8, [.ref (b 0), .ref (b 1), .ref (b 2), .ref (b 3), .int (m 4), .int (m 5), .int (nI n), .int (nI now), .ref (b 8), .int (m 9), .ref (b 10), .int (m 11), .int (m 12), .int (m 13), .int (m 14), .int (m 15), .int (m 16), .ref (b 17), .ref (b 18), .ref (b 19), .ref (b 20), .ref (b 21), .ref (b 22), .ref (b 23), .ref (b 24), .int (m 25), .int (m 26), .int (m 27), .int (nI m1), .ref (b 29), .ref (b 30), .int (m 31), .int (zk_b ik), .int (nI iw), .int (nI inow), .int (nI im), .ref (b 36), .ref (b 37), .int (m 38), .ref (b 39), .ref (b 40), .int (m 41), .int (m 42), .int (m 43), .ref (b 44), .ref (b 45), .ref (b 46), .ref (b 47)])), (b 29, .inl (g 0, 40, .inl MS)), (b 30, .inl (g 0, 6, .inl (fun i => nI (HD i)))), (b 36, .inl (g 0, 40, .inl IM)), (b 37, .inl (g 0, 6, .inl (fun i => nI (IH i))))]) (y := yX8_image) (wd := wmX8_image) (Qc := fun A => va_Qi (fun (r : Int32) (_ : Unit) => r = nI now) (zk_B D g A (fun (_ : Unit) => [(b 100, .inr (8, [.ref (b 0), .ref (b 1), .ref (b 2), .ref (b 3), .int (m 4), .int (m 5), .int (nI n), .int (nI now), .ref (b 8), .int (m 9), .ref (b 10), .int (m 11), .int (m 12), .int (m 13), .int (m 14), .int (m 15), .int (m 16), .ref (b 17), .ref (b 18), .ref (b 19), .ref (b 20), .ref (b 21), .ref (b 22), .ref (b 23), .ref (b 24), .int (m 25), .int (m 26), .int (m 27), .int (nI m1), .ref (b 29), .ref (b 30), .int (m 31), .int (zk_b true), .int (nI n), .int (nI now), .int (nI m1), .ref (b 36), .ref (b 37), .int (m 38), .ref (b 39), .ref (b 40), .int (m 41), .int (m 42), .int (m 43), .ref (b 44), .ref (b 45), .ref (b 46), .ref (b 47)])), (b 29, .inl (g 0, 40, .inl MS)), (b 30, .inl (g 0, 6, .inl (fun i => nI (HD i)))), (b 36, .inl (g 0, 40, .inl (zs_fill MS IM 40))), (b 37, .inl (g 0, 6, .inl (fun i => nI ((zs_fill HD IH 6) i))))])) A) (cc := cX8_image) (maxL := 2) (ret := (some .int)) (own := RX8) (by decide) rfl rfl (Nat.le_of_ble_eq_true rfl) ?_
  intro pP eE sS mM args below meth cC aA ls qQ Z hR_ hlk hnm hK hT hA hQ G hl
  have hinX8 : ∀ w ∈ u_ws RX8 TX8 48, w ∈ wmX8_image := wa8_in
  refine lv_aload_n Z.1 Z.2.1 dX8_image_0 rfl (lv_at hl 0 rfl) ?_
  refine lv_iconst (v := nI 1) Z.1 Z.2.1 dX8_image_1 (by decide +kernel) ?_
  refine W.eq (g2 := F0 mM 2 ls [.int (zk_b true), .ref (b 100)]) rfl ?_
  refine zk_put tyX8 tyX8_ok nmX8 (C := RX8) (T := TX8) (N := 48) (ci := 8) Z hK G hinX8 0 rfl rfl 32 (by decide) (List.mem_cons_of_mem _ wa8_253) rfl rfl zk_bnar zk_bfit (Nat.le_of_ble_eq_true rfl) (ws' := [(b 100, .inr (8, [.ref (b 0), .ref (b 1), .ref (b 2), .ref (b 3), .int (m 4), .int (m 5), .int (nI n), .int (nI now), .ref (b 8), .int (m 9), .ref (b 10), .int (m 11), .int (m 12), .int (m 13), .int (m 14), .int (m 15), .int (m 16), .ref (b 17), .ref (b 18), .ref (b 19), .ref (b 20), .ref (b 21), .ref (b 22), .ref (b 23), .ref (b 24), .int (m 25), .int (m 26), .int (m 27), .int (nI m1), .ref (b 29), .ref (b 30), .int (m 31), .int (zk_b true), .int (nI iw), .int (nI inow), .int (nI im), .ref (b 36), .ref (b 37), .int (m 38), .ref (b 39), .ref (b 40), .int (m 41), .int (m 42), .int (m 43), .ref (b 44), .ref (b 45), .ref (b 46), .ref (b 47)])), (b 29, .inl (g 0, 40, .inl MS)), (b 30, .inl (g 0, 6, .inl (fun i => nI (HD i)))), (b 36, .inl (g 0, 40, .inl IM)), (b 37, .inl (g 0, 6, .inl (fun i => nI (IH i))))]) rfl dX8_image_2 (fun H locs G => ?_)
  refine lv_aload_n Z.1 Z.2.1 dX8_image_5 rfl (lv_at hl 0 rfl) ?_
  refine lv_aload_n Z.1 Z.2.1 dX8_image_6 rfl (lv_at hl 0 rfl) ?_
  refine zk_get (C := RX8) (T := TX8) (N := 48) (ci := 8) Z hK G hinX8 0 rfl rfl 6 (by decide) (List.mem_cons_of_mem _ wa8_40) rfl (v := .int (nI n)) rfl dX8_image_7 ?_
  refine zk_put tyX8 tyX8_ok nmX8 (C := RX8) (T := TX8) (N := 48) (ci := 8) Z hK G hinX8 0 rfl rfl 33 (by decide) (List.mem_cons_of_mem _ wa8_254) rfl rfl rfl rfl (Nat.le_of_ble_eq_true rfl) (ws' := [(b 100, .inr (8, [.ref (b 0), .ref (b 1), .ref (b 2), .ref (b 3), .int (m 4), .int (m 5), .int (nI n), .int (nI now), .ref (b 8), .int (m 9), .ref (b 10), .int (m 11), .int (m 12), .int (m 13), .int (m 14), .int (m 15), .int (m 16), .ref (b 17), .ref (b 18), .ref (b 19), .ref (b 20), .ref (b 21), .ref (b 22), .ref (b 23), .ref (b 24), .int (m 25), .int (m 26), .int (m 27), .int (nI m1), .ref (b 29), .ref (b 30), .int (m 31), .int (zk_b true), .int (nI n), .int (nI inow), .int (nI im), .ref (b 36), .ref (b 37), .int (m 38), .ref (b 39), .ref (b 40), .int (m 41), .int (m 42), .int (m 43), .ref (b 44), .ref (b 45), .ref (b 46), .ref (b 47)])), (b 29, .inl (g 0, 40, .inl MS)), (b 30, .inl (g 0, 6, .inl (fun i => nI (HD i)))), (b 36, .inl (g 0, 40, .inl IM)), (b 37, .inl (g 0, 6, .inl (fun i => nI (IH i))))]) rfl dX8_image_10 (fun H locs G => ?_)
  refine lv_aload_n Z.1 Z.2.1 dX8_image_13 rfl (lv_at hl 0 rfl) ?_
  refine lv_aload_n Z.1 Z.2.1 dX8_image_14 rfl (lv_at hl 0 rfl) ?_
  refine zk_get (C := RX8) (T := TX8) (N := 48) (ci := 8) Z hK G hinX8 0 rfl rfl 7 (by decide) (List.mem_cons_of_mem _ wa8_73) rfl (v := .int (nI now)) rfl dX8_image_15 ?_
  refine zk_put tyX8 tyX8_ok nmX8 (C := RX8) (T := TX8) (N := 48) (ci := 8) Z hK G hinX8 0 rfl rfl 34 (by decide) (List.mem_cons_of_mem _ wa8_255) rfl rfl rfl rfl (Nat.le_of_ble_eq_true rfl) (ws' := [(b 100, .inr (8, [.ref (b 0), .ref (b 1), .ref (b 2), .ref (b 3), .int (m 4), .int (m 5), .int (nI n), .int (nI now), .ref (b 8), .int (m 9), .ref (b 10), .int (m 11), .int (m 12), .int (m 13), .int (m 14), .int (m 15), .int (m 16), .ref (b 17), .ref (b 18), .ref (b 19), .ref (b 20), .ref (b 21), .ref (b 22), .ref (b 23), .ref (b 24), .int (m 25), .int (m 26), .int (m 27), .int (nI m1), .ref (b 29), .ref (b 30), .int (m 31), .int (zk_b true), .int (nI n), .int (nI now), .int (nI im), .ref (b 36), .ref (b 37), .int (m 38), .ref (b 39), .ref (b 40), .int (m 41), .int (m 42), .int (m 43), .ref (b 44), .ref (b 45), .ref (b 46), .ref (b 47)])), (b 29, .inl (g 0, 40, .inl MS)), (b 30, .inl (g 0, 6, .inl (fun i => nI (HD i)))), (b 36, .inl (g 0, 40, .inl IM)), (b 37, .inl (g 0, 6, .inl (fun i => nI (IH i))))]) rfl dX8_image_18 (fun H locs G => ?_)
  refine lv_aload_n Z.1 Z.2.1 dX8_image_21 rfl (lv_at hl 0 rfl) ?_
  refine lv_aload_n Z.1 Z.2.1 dX8_image_22 rfl (lv_at hl 0 rfl) ?_
  refine zk_get (C := RX8) (T := TX8) (N := 48) (ci := 8) Z hK G hinX8 0 rfl rfl 28 (by decide) (List.mem_cons_of_mem _ wa8_82) rfl (v := .int (nI m1)) rfl dX8_image_23 ?_
  refine zk_put tyX8 tyX8_ok nmX8 (C := RX8) (T := TX8) (N := 48) (ci := 8) Z hK G hinX8 0 rfl rfl 35 (by decide) (List.mem_cons_of_mem _ wa8_256) rfl rfl rfl rfl (Nat.le_of_ble_eq_true rfl) (ws' := [(b 100, .inr (8, [.ref (b 0), .ref (b 1), .ref (b 2), .ref (b 3), .int (m 4), .int (m 5), .int (nI n), .int (nI now), .ref (b 8), .int (m 9), .ref (b 10), .int (m 11), .int (m 12), .int (m 13), .int (m 14), .int (m 15), .int (m 16), .ref (b 17), .ref (b 18), .ref (b 19), .ref (b 20), .ref (b 21), .ref (b 22), .ref (b 23), .ref (b 24), .int (m 25), .int (m 26), .int (m 27), .int (nI m1), .ref (b 29), .ref (b 30), .int (m 31), .int (zk_b true), .int (nI n), .int (nI now), .int (nI m1), .ref (b 36), .ref (b 37), .int (m 38), .ref (b 39), .ref (b 40), .int (m 41), .int (m 42), .int (m 43), .ref (b 44), .ref (b 45), .ref (b 46), .ref (b 47)])), (b 29, .inl (g 0, 40, .inl MS)), (b 30, .inl (g 0, 6, .inl (fun i => nI (HD i)))), (b 36, .inl (g 0, 40, .inl IM)), (b 37, .inl (g 0, 6, .inl (fun i => nI (IH i))))]) rfl dX8_image_26 (fun H locs G => ?_)
  have G : zk_G D aA [(b 100, .inr (8, [.ref (b 0), .ref (b 1), .ref (b 2), .ref (b 3), .int (m 4), .int (m 5), .int (nI n), .int (nI now), .ref (b 8), .int (m 9), .ref (b 10), .int (m 11), .int (m 12), .int (m 13), .int (m 14), .int (m 15), .int (m 16), .ref (b 17), .ref (b 18), .ref (b 19), .ref (b 20), .ref (b 21), .ref (b 22), .ref (b 23), .ref (b 24), .int (m 25), .int (m 26), .int (m 27), .int (nI m1), .ref (b 29), .ref (b 30), .int (m 31), .int (zk_b true), .int (nI n), .int (nI now), .int (nI m1), .ref (b 36), .ref (b 37), .int (m 38), .ref (b 39), .ref (b 40), .int (m 41), .int (m 42), .int (m 43), .ref (b 44), .ref (b 45), .ref (b 46), .ref (b 47)])), (b 29, .inl (g 0, 40, .inl MS)), (b 30, .inl (g 0, 6, .inl (fun i => nI (HD i)))), (b 36, .inl (g 0, 40, .inl (zs_fill MS IM 0))), (b 37, .inl (g 0, 6, .inl (fun i => nI (IH i))))] sS H locs := (by rw [zs_fill_0]; exact G)
  refine lv_iconst (v := nI 0) Z.1 Z.2.1 dX8_image_29 (by decide +kernel) ?_
  refine lv_istore_n (lv' := [(1, .int (nI 0)), (0, .ref (b 100))]) Z.1 Z.2.1 dX8_image_30 rfl hl (by decide) rfl (fun ls hl => ?_)
  have L31 : ∀ (nN : Nat) (s : Nat), 40 - s < nN → (s ≤ 40) → ∀ (H : Heap) (locs : List Loc) (ls : Array Slot), zk_G D aA [(b 100, .inr (8, [.ref (b 0), .ref (b 1), .ref (b 2), .ref (b 3), .int (m 4), .int (m 5), .int (nI n), .int (nI now), .ref (b 8), .int (m 9), .ref (b 10), .int (m 11), .int (m 12), .int (m 13), .int (m 14), .int (m 15), .int (m 16), .ref (b 17), .ref (b 18), .ref (b 19), .ref (b 20), .ref (b 21), .ref (b 22), .ref (b 23), .ref (b 24), .int (m 25), .int (m 26), .int (m 27), .int (nI m1), .ref (b 29), .ref (b 30), .int (m 31), .int (zk_b true), .int (nI n), .int (nI now), .int (nI m1), .ref (b 36), .ref (b 37), .int (m 38), .ref (b 39), .ref (b 40), .int (m 41), .int (m 42), .int (m 43), .ref (b 44), .ref (b 45), .ref (b 46), .ref (b 47)])), (b 29, .inl (g 0, 40, .inl MS)), (b 30, .inl (g 0, 6, .inl (fun i => nI (HD i)))), (b 36, .inl (g 0, 40, .inl (zs_fill MS IM s))), (b 37, .inl (g 0, 6, .inl (fun i => nI (IH i))))] sS H locs → lv_has ls 2 [(0, .ref (b 100)), (1, .int (nI s))] → W pP l eE rm_X8_image sS mM args below meth cC H locs 0 0 qQ (F0 mM 31 ls []) := by
    intro nN
    induction nN with
    | zero => intros; omega
    | succ nN ih31 =>
      intro s hμ h1 H locs ls G hl
      refine lv_iload_n Z.1 Z.2.1 dX8_image_31 rfl (lv_at hl 1 rfl) ?_
      refine lv_bipush (v := nI 40) Z.1 Z.2.1 dX8_image_32 (by decide +kernel) ?_
      refine lv_icmp_ge (tgt := 55) Z.1 Z.2.1 dX8_image_34 (by decide) (fun c34 => ?_) (fun c34 => ?_)
      · have c34 : 40 ≤ s := zk_le (by omega) (by omega) c34
        have e40 : s = 40 := by omega
        subst e40
        have G : zk_G D aA [(b 100, .inr (8, [.ref (b 0), .ref (b 1), .ref (b 2), .ref (b 3), .int (m 4), .int (m 5), .int (nI n), .int (nI now), .ref (b 8), .int (m 9), .ref (b 10), .int (m 11), .int (m 12), .int (m 13), .int (m 14), .int (m 15), .int (m 16), .ref (b 17), .ref (b 18), .ref (b 19), .ref (b 20), .ref (b 21), .ref (b 22), .ref (b 23), .ref (b 24), .int (m 25), .int (m 26), .int (m 27), .int (nI m1), .ref (b 29), .ref (b 30), .int (m 31), .int (zk_b true), .int (nI n), .int (nI now), .int (nI m1), .ref (b 36), .ref (b 37), .int (m 38), .ref (b 39), .ref (b 40), .int (m 41), .int (m 42), .int (m 43), .ref (b 44), .ref (b 45), .ref (b 46), .ref (b 47)])), (b 29, .inl (g 0, 40, .inl MS)), (b 30, .inl (g 0, 6, .inl (fun i => nI (HD i)))), (b 36, .inl (g 0, 40, .inl (zs_fill MS IM 40))), (b 37, .inl (g 0, 6, .inl (fun i => nI ((zs_fill HD IH 0) i))))] sS H locs := (by rw [zs_fill_0 HD]; exact G)
        refine lv_iconst (v := nI 0) Z.1 Z.2.1 dX8_image_55 (by decide +kernel) ?_
        refine lv_istore_n (lv' := [(1, .int (nI 0)), (0, .ref (b 100))]) Z.1 Z.2.1 dX8_image_56 rfl hl (by decide) rfl (fun ls hl => ?_)
        have L57 : ∀ (nN : Nat) (s : Nat), 6 - s < nN → (s ≤ 6) → ∀ (H : Heap) (locs : List Loc) (ls : Array Slot), zk_G D aA [(b 100, .inr (8, [.ref (b 0), .ref (b 1), .ref (b 2), .ref (b 3), .int (m 4), .int (m 5), .int (nI n), .int (nI now), .ref (b 8), .int (m 9), .ref (b 10), .int (m 11), .int (m 12), .int (m 13), .int (m 14), .int (m 15), .int (m 16), .ref (b 17), .ref (b 18), .ref (b 19), .ref (b 20), .ref (b 21), .ref (b 22), .ref (b 23), .ref (b 24), .int (m 25), .int (m 26), .int (m 27), .int (nI m1), .ref (b 29), .ref (b 30), .int (m 31), .int (zk_b true), .int (nI n), .int (nI now), .int (nI m1), .ref (b 36), .ref (b 37), .int (m 38), .ref (b 39), .ref (b 40), .int (m 41), .int (m 42), .int (m 43), .ref (b 44), .ref (b 45), .ref (b 46), .ref (b 47)])), (b 29, .inl (g 0, 40, .inl MS)), (b 30, .inl (g 0, 6, .inl (fun i => nI (HD i)))), (b 36, .inl (g 0, 40, .inl (zs_fill MS IM 40))), (b 37, .inl (g 0, 6, .inl (fun i => nI ((zs_fill HD IH s) i))))] sS H locs → lv_has ls 2 [(0, .ref (b 100)), (1, .int (nI s))] → W pP l eE rm_X8_image sS mM args below meth cC H locs 0 0 qQ (F0 mM 57 ls []) := by
          intro nN
          induction nN with
          | zero => intros; omega
          | succ nN ih57 =>
            intro s hμ h1 H locs ls G hl
            refine lv_iload_n Z.1 Z.2.1 dX8_image_57 rfl (lv_at hl 1 rfl) ?_
            refine lv_bipush (v := nI 6) Z.1 Z.2.1 dX8_image_58 (by decide +kernel) ?_
            refine lv_icmp_ge (tgt := 81) Z.1 Z.2.1 dX8_image_60 (by decide) (fun c60 => ?_) (fun c60 => ?_)
            · have c60 : 6 ≤ s := zk_le (by omega) (by omega) c60
              refine lv_aload_n Z.1 Z.2.1 dX8_image_81 rfl (lv_at hl 0 rfl) ?_
              refine zk_get (C := RX8) (T := TX8) (N := 48) (ci := 8) Z hK G hinX8 0 rfl rfl 7 (by decide) (List.mem_cons_of_mem _ wa8_73) rfl (v := .int (nI now)) rfl dX8_image_82 ?_
              exact zk_reti Z hR_ hlk hK hQ G () rfl (by rw [show s = 6 by omega]) dX8_image_85
            have c60 : s < 6 := zk_nle (by omega) (by omega) c60
            refine lv_aload_n Z.1 Z.2.1 dX8_image_63 rfl (lv_at hl 0 rfl) ?_
            refine zk_get (C := RX8) (T := TX8) (N := 48) (ci := 8) Z hK G hinX8 0 rfl rfl 37 (by decide) (List.mem_cons_of_mem _ wa8_25) rfl (v := .ref (b 37)) rfl dX8_image_64 ?_
            refine lv_iload_n Z.1 Z.2.1 dX8_image_67 rfl (lv_at hl 1 rfl) ?_
            refine lv_aload_n Z.1 Z.2.1 dX8_image_68 rfl (lv_at hl 0 rfl) ?_
            refine zk_get (C := RX8) (T := TX8) (N := 48) (ci := 8) Z hK G hinX8 0 rfl rfl 30 (by decide) (List.mem_cons_of_mem _ wa8_23) rfl (v := .ref (b 30)) rfl dX8_image_69 ?_
            refine lv_iload_n Z.1 Z.2.1 dX8_image_72 rfl (lv_at hl 1 rfl) ?_
            refine zk_iald Z hK G 2 rfl (k := s) (by omega) (by decide) (v := nI (HD s)) rfl dX8_image_73 ?_
            refine zk_iast Z hK G 4 rfl (k := s) (by omega) (by decide) (zs_fill_n _ _ _) (ws' := [(b 100, .inr (8, [.ref (b 0), .ref (b 1), .ref (b 2), .ref (b 3), .int (m 4), .int (m 5), .int (nI n), .int (nI now), .ref (b 8), .int (m 9), .ref (b 10), .int (m 11), .int (m 12), .int (m 13), .int (m 14), .int (m 15), .int (m 16), .ref (b 17), .ref (b 18), .ref (b 19), .ref (b 20), .ref (b 21), .ref (b 22), .ref (b 23), .ref (b 24), .int (m 25), .int (m 26), .int (m 27), .int (nI m1), .ref (b 29), .ref (b 30), .int (m 31), .int (zk_b true), .int (nI n), .int (nI now), .int (nI m1), .ref (b 36), .ref (b 37), .int (m 38), .ref (b 39), .ref (b 40), .int (m 41), .int (m 42), .int (m 43), .ref (b 44), .ref (b 45), .ref (b 46), .ref (b 47)])), (b 29, .inl (g 0, 40, .inl MS)), (b 30, .inl (g 0, 6, .inl (fun i => nI (HD i)))), (b 36, .inl (g 0, 40, .inl (zs_fill MS IM 40))), (b 37, .inl (g 0, 6, .inl (fun i => nI ((zs_fill HD IH (s + 1)) i))))]) rfl dX8_image_74 (fun H locs G => ?_)
            refine lv_iinc (v := nI (s + 1)) (lv' := [(1, .int (nI (s + 1))), (0, .ref (b 100))]) Z.1 Z.2.1 dX8_image_75 hl (k := 1) rfl (zk_inc s 1) (by decide) rfl (fun ls hl => ?_)
            refine lv_goto (tgt := 57) Z.1 Z.2.1 dX8_image_78 (by decide) ?_
            exact ih57 (s + 1) (by omega) (by omega) _ _ _ G (lv_sub hl [1, 0] rfl)
        exact L57 _ 0 (Nat.lt_succ_self _) (by omega) _ _ _ G (lv_sub hl [1, 0] rfl)
      have c34 : s < 40 := zk_nle (by omega) (by omega) c34
      refine lv_aload_n Z.1 Z.2.1 dX8_image_37 rfl (lv_at hl 0 rfl) ?_
      refine zk_get (C := RX8) (T := TX8) (N := 48) (ci := 8) Z hK G hinX8 0 rfl rfl 36 (by decide) (List.mem_cons_of_mem _ wa8_24) rfl (v := .ref (b 36)) rfl dX8_image_38 ?_
      refine lv_iload_n Z.1 Z.2.1 dX8_image_41 rfl (lv_at hl 1 rfl) ?_
      refine lv_aload_n Z.1 Z.2.1 dX8_image_42 rfl (lv_at hl 0 rfl) ?_
      refine zk_get (C := RX8) (T := TX8) (N := 48) (ci := 8) Z hK G hinX8 0 rfl rfl 29 (by decide) (List.mem_cons_of_mem _ wa8_22) rfl (v := .ref (b 29)) rfl dX8_image_43 ?_
      refine lv_iload_n Z.1 Z.2.1 dX8_image_46 rfl (lv_at hl 1 rfl) ?_
      refine zk_iald Z hK G 1 rfl (k := s) (by omega) (by decide) (v := MS s) rfl dX8_image_47 ?_
      refine zk_iast Z hK G 3 rfl (k := s) (by omega) (by decide) (zs_fill_s _ _ _) (ws' := [(b 100, .inr (8, [.ref (b 0), .ref (b 1), .ref (b 2), .ref (b 3), .int (m 4), .int (m 5), .int (nI n), .int (nI now), .ref (b 8), .int (m 9), .ref (b 10), .int (m 11), .int (m 12), .int (m 13), .int (m 14), .int (m 15), .int (m 16), .ref (b 17), .ref (b 18), .ref (b 19), .ref (b 20), .ref (b 21), .ref (b 22), .ref (b 23), .ref (b 24), .int (m 25), .int (m 26), .int (m 27), .int (nI m1), .ref (b 29), .ref (b 30), .int (m 31), .int (zk_b true), .int (nI n), .int (nI now), .int (nI m1), .ref (b 36), .ref (b 37), .int (m 38), .ref (b 39), .ref (b 40), .int (m 41), .int (m 42), .int (m 43), .ref (b 44), .ref (b 45), .ref (b 46), .ref (b 47)])), (b 29, .inl (g 0, 40, .inl MS)), (b 30, .inl (g 0, 6, .inl (fun i => nI (HD i)))), (b 36, .inl (g 0, 40, .inl (zs_fill MS IM (s + 1)))), (b 37, .inl (g 0, 6, .inl (fun i => nI (IH i))))]) rfl dX8_image_48 (fun H locs G => ?_)
      refine lv_iinc (v := nI (s + 1)) (lv' := [(1, .int (nI (s + 1))), (0, .ref (b 100))]) Z.1 Z.2.1 dX8_image_49 hl (k := 1) rfl (zk_inc s 1) (by decide) rfl (fun ls hl => ?_)
      refine lv_goto (tgt := 31) Z.1 Z.2.1 dX8_image_52 (by decide) ?_
      exact ih31 (s + 1) (by omega) (by omega) _ _ _ G (lv_sub hl [1, 0] rfl)
  exact L31 _ 0 (Nat.lt_succ_self _) (by omega) _ _ _ G (lv_sub hl [1, 0] rfl)

abbrev rm_X8_back : Room := { frames := 0, cells := 0, slots := 0, locals := 0 }
theorem dvX8_back : zk_dv yX8_back RX8 0 := by decide +kernel
set_option maxRecDepth 100000 in
set_option maxHeartbeats 400000 in
theorem ct_X8_back (l : Launch) (D : va_G) (g : Nat → ClassId) (τ : Nat → Nat) (b : Nat → Nat) (m : Nat → Int32) (n : Nat) (now : Nat) (m1 : Nat) (ik : Bool) (iw : Nat) (inow : Nat) (im : Nat) (MS : Nat → Int32) (HD : Nat → Nat) (IM : Nat → Int32) (IH : Nat → Nat) (hiw : iw ≤ 6) : zk_MI l D g τ yX8_back wmX8_back rm_X8_back [.ref (b 100)] [(b 100, .inr (8, [.ref (b 0), .ref (b 1), .ref (b 2), .ref (b 3), .int (m 4), .int (m 5), .int (nI n), .int (nI now), .ref (b 8), .int (m 9), .ref (b 10), .int (m 11), .int (m 12), .int (m 13), .int (m 14), .int (m 15), .int (m 16), .ref (b 17), .ref (b 18), .ref (b 19), .ref (b 20), .ref (b 21), .ref (b 22), .ref (b 23), .ref (b 24), .int (m 25), .int (m 26), .int (m 27), .int (nI m1), .ref (b 29), .ref (b 30), .int (m 31), .int (zk_b ik), .int (nI iw), .int (nI inow), .int (nI im), .ref (b 36), .ref (b 37), .int (m 38), .ref (b 39), .ref (b 40), .int (m 41), .int (m 42), .int (m 43), .ref (b 44), .ref (b 45), .ref (b 46), .ref (b 47)])), (b 29, .inl (g 0, 40, .inl MS)), (b 30, .inl (g 0, 6, .inl (fun i => nI (HD i)))), (b 36, .inl (g 0, 40, .inl IM)), (b 37, .inl (g 0, 6, .inl (fun i => nI (IH i))))] (fun (r : Int32) (_ : Unit) => r = if ik = true then nI inow else (-5)) (fun (_ : Unit) => [(b 100, .inr (8, [.ref (b 0), .ref (b 1), .ref (b 2), .ref (b 3), .int (m 4), .int (m 5), .int (nI n), .int (nI (if ik = true then inow else now)), .ref (b 8), .int (m 9), .ref (b 10), .int (m 11), .int (m 12), .int (m 13), .int (m 14), .int (m 15), .int (m 16), .ref (b 17), .ref (b 18), .ref (b 19), .ref (b 20), .ref (b 21), .ref (b 22), .ref (b 23), .ref (b 24), .int (m 25), .int (m 26), .int (m 27), .int (nI (if ik = true then im else m1)), .ref (b 29), .ref (b 30), .int (m 31), .int (zk_b ik), .int (nI iw), .int (nI inow), .int (nI im), .ref (b 36), .ref (b 37), .int (m 38), .ref (b 39), .ref (b 40), .int (m 41), .int (m 42), .int (m 43), .ref (b 44), .ref (b 45), .ref (b 46), .ref (b 47)])), (b 29, .inl (g 0, 40, .inl (if ik = true then (zs_fill IM MS 40) else MS))), (b 30, .inl (g 0, 6, .inl (fun i => nI ((if ik = true then (zs_fill (fun w => if w < iw then IH w else 0) HD 6) else HD) i)))), (b 36, .inl (g 0, 40, .inl IM)), (b 37, .inl (g 0, 6, .inl (fun i => nI (IH i))))]) := by
  refine zk_of (av := [.ref (b 100)]) (W0 := [(b 100, .inr (8, [.ref (b 0), .ref (b 1), .ref (b 2), .ref (b 3), .int (m 4), .int (m 5), .int (nI n), .int (nI now), .ref (b 8), .int (m 9), .ref (b 10), .int (m 11), .int (m 12), .int (m 13), .int (m 14), .int (m 15), .int (m 16), .ref (b 17), .ref (b 18), .ref (b 19), .ref (b 20), .ref (b 21), .ref (b 22), .ref (b 23), .ref (b 24), .int (m 25), .int (m 26), .int (m 27), .int (nI m1), .ref (b 29), .ref (b 30), .int (m 31), .int (zk_b ik), .int (nI iw), .int (nI inow), .int (nI im), .ref (b 36), .ref (b 37), .int (m 38), .ref (b 39), .ref (b 40), .int (m 41), .int (m 42), .int (m 43), .ref (b 44), .ref (b 45), .ref (b 46), .ref (b 47)])), (b 29, .inl (g 0, 40, .inl MS)), (b 30, .inl (g 0, 6, .inl (fun i => nI (HD i)))), (b 36, .inl (g 0, 40, .inl IM)), (b 37, .inl (g 0, 6, .inl (fun i => nI (IH i))))]) (y := yX8_back) (wd := wmX8_back) (Qc := fun A => va_Qi (fun (r : Int32) (_ : Unit) => r = if ik = true then nI inow else (-5)) (zk_B D g A (fun (_ : Unit) => [(b 100, .inr (8, [.ref (b 0), .ref (b 1), .ref (b 2), .ref (b 3), .int (m 4), .int (m 5), .int (nI n), .int (nI (if ik = true then inow else now)), .ref (b 8), .int (m 9), .ref (b 10), .int (m 11), .int (m 12), .int (m 13), .int (m 14), .int (m 15), .int (m 16), .ref (b 17), .ref (b 18), .ref (b 19), .ref (b 20), .ref (b 21), .ref (b 22), .ref (b 23), .ref (b 24), .int (m 25), .int (m 26), .int (m 27), .int (nI (if ik = true then im else m1)), .ref (b 29), .ref (b 30), .int (m 31), .int (zk_b ik), .int (nI iw), .int (nI inow), .int (nI im), .ref (b 36), .ref (b 37), .int (m 38), .ref (b 39), .ref (b 40), .int (m 41), .int (m 42), .int (m 43), .ref (b 44), .ref (b 45), .ref (b 46), .ref (b 47)])), (b 29, .inl (g 0, 40, .inl (if ik = true then (zs_fill IM MS 40) else MS))), (b 30, .inl (g 0, 6, .inl (fun i => nI ((if ik = true then (zs_fill (fun w => if w < iw then IH w else 0) HD 6) else HD) i)))), (b 36, .inl (g 0, 40, .inl IM)), (b 37, .inl (g 0, 6, .inl (fun i => nI (IH i))))])) A) (cc := cX8_back) (maxL := 2) (ret := (some .int)) (own := RX8) (by decide) rfl rfl (Nat.le_of_ble_eq_true rfl) ?_
  intro pP eE sS mM args below meth cC aA ls qQ Z hR_ hlk hnm hK hT hA hQ G hl
  have hinX8 : ∀ w ∈ u_ws RX8 TX8 48, w ∈ wmX8_back := wa8_in
  refine lv_aload_n Z.1 Z.2.1 dX8_back_0 rfl (lv_at hl 0 rfl) ?_
  refine zk_get (C := RX8) (T := TX8) (N := 48) (ci := 8) Z hK G hinX8 0 rfl rfl 32 (by decide) (List.mem_cons_of_mem _ wa8_253) rfl (v := .int (zk_b ik)) rfl dX8_back_1 ?_
  refine lv_if_ne (tgt := 10) Z.1 Z.2.1 dX8_back_4 (by decide) (fun c4 => ?_) (fun c4 => ?_)
  · have c4 : ik = true := zk_b1.mp c4
    have c4_0 := c4
    refine lv_aload_n Z.1 Z.2.1 dX8_back_10 rfl (lv_at hl 0 rfl) ?_
    refine lv_aload_n Z.1 Z.2.1 dX8_back_11 rfl (lv_at hl 0 rfl) ?_
    refine zk_get (C := RX8) (T := TX8) (N := 48) (ci := 8) Z hK G hinX8 0 rfl rfl 34 (by decide) (List.mem_cons_of_mem _ wa8_255) rfl (v := .int (nI inow)) rfl dX8_back_12 ?_
    refine zk_put tyX8 tyX8_ok nmX8 (C := RX8) (T := TX8) (N := 48) (ci := 8) Z hK G hinX8 0 rfl rfl 7 (by decide) (List.mem_cons_of_mem _ wa8_73) rfl rfl rfl rfl (Nat.le_of_ble_eq_true rfl) (ws' := [(b 100, .inr (8, [.ref (b 0), .ref (b 1), .ref (b 2), .ref (b 3), .int (m 4), .int (m 5), .int (nI n), .int (nI inow), .ref (b 8), .int (m 9), .ref (b 10), .int (m 11), .int (m 12), .int (m 13), .int (m 14), .int (m 15), .int (m 16), .ref (b 17), .ref (b 18), .ref (b 19), .ref (b 20), .ref (b 21), .ref (b 22), .ref (b 23), .ref (b 24), .int (m 25), .int (m 26), .int (m 27), .int (nI m1), .ref (b 29), .ref (b 30), .int (m 31), .int (zk_b ik), .int (nI iw), .int (nI inow), .int (nI im), .ref (b 36), .ref (b 37), .int (m 38), .ref (b 39), .ref (b 40), .int (m 41), .int (m 42), .int (m 43), .ref (b 44), .ref (b 45), .ref (b 46), .ref (b 47)])), (b 29, .inl (g 0, 40, .inl MS)), (b 30, .inl (g 0, 6, .inl (fun i => nI (HD i)))), (b 36, .inl (g 0, 40, .inl IM)), (b 37, .inl (g 0, 6, .inl (fun i => nI (IH i))))]) rfl dX8_back_15 (fun H locs G => ?_)
    refine lv_aload_n Z.1 Z.2.1 dX8_back_18 rfl (lv_at hl 0 rfl) ?_
    refine lv_aload_n Z.1 Z.2.1 dX8_back_19 rfl (lv_at hl 0 rfl) ?_
    refine zk_get (C := RX8) (T := TX8) (N := 48) (ci := 8) Z hK G hinX8 0 rfl rfl 35 (by decide) (List.mem_cons_of_mem _ wa8_256) rfl (v := .int (nI im)) rfl dX8_back_20 ?_
    refine zk_put tyX8 tyX8_ok nmX8 (C := RX8) (T := TX8) (N := 48) (ci := 8) Z hK G hinX8 0 rfl rfl 28 (by decide) (List.mem_cons_of_mem _ wa8_82) rfl rfl rfl rfl (Nat.le_of_ble_eq_true rfl) (ws' := [(b 100, .inr (8, [.ref (b 0), .ref (b 1), .ref (b 2), .ref (b 3), .int (m 4), .int (m 5), .int (nI n), .int (nI inow), .ref (b 8), .int (m 9), .ref (b 10), .int (m 11), .int (m 12), .int (m 13), .int (m 14), .int (m 15), .int (m 16), .ref (b 17), .ref (b 18), .ref (b 19), .ref (b 20), .ref (b 21), .ref (b 22), .ref (b 23), .ref (b 24), .int (m 25), .int (m 26), .int (m 27), .int (nI im), .ref (b 29), .ref (b 30), .int (m 31), .int (zk_b ik), .int (nI iw), .int (nI inow), .int (nI im), .ref (b 36), .ref (b 37), .int (m 38), .ref (b 39), .ref (b 40), .int (m 41), .int (m 42), .int (m 43), .ref (b 44), .ref (b 45), .ref (b 46), .ref (b 47)])), (b 29, .inl (g 0, 40, .inl MS)), (b 30, .inl (g 0, 6, .inl (fun i => nI (HD i)))), (b 36, .inl (g 0, 40, .inl IM)), (b 37, .inl (g 0, 6, .inl (fun i => nI (IH i))))]) rfl dX8_back_23 (fun H locs G => ?_)
    have G : zk_G D aA [(b 100, .inr (8, [.ref (b 0), .ref (b 1), .ref (b 2), .ref (b 3), .int (m 4), .int (m 5), .int (nI n), .int (nI inow), .ref (b 8), .int (m 9), .ref (b 10), .int (m 11), .int (m 12), .int (m 13), .int (m 14), .int (m 15), .int (m 16), .ref (b 17), .ref (b 18), .ref (b 19), .ref (b 20), .ref (b 21), .ref (b 22), .ref (b 23), .ref (b 24), .int (m 25), .int (m 26), .int (m 27), .int (nI im), .ref (b 29), .ref (b 30), .int (m 31), .int (zk_b ik), .int (nI iw), .int (nI inow), .int (nI im), .ref (b 36), .ref (b 37), .int (m 38), .ref (b 39), .ref (b 40), .int (m 41), .int (m 42), .int (m 43), .ref (b 44), .ref (b 45), .ref (b 46), .ref (b 47)])), (b 29, .inl (g 0, 40, .inl (zs_fill IM MS 0))), (b 30, .inl (g 0, 6, .inl (fun i => nI (HD i)))), (b 36, .inl (g 0, 40, .inl IM)), (b 37, .inl (g 0, 6, .inl (fun i => nI (IH i))))] sS H locs := (by rw [zs_fill_0]; exact G)
    refine lv_iconst (v := nI 0) Z.1 Z.2.1 dX8_back_26 (by decide +kernel) ?_
    refine lv_istore_n (lv' := [(1, .int (nI 0)), (0, .ref (b 100))]) Z.1 Z.2.1 dX8_back_27 rfl hl (by decide) rfl (fun ls hl => ?_)
    have L28 : ∀ (nN : Nat) (s : Nat), 40 - s < nN → (s ≤ 40) → ∀ (H : Heap) (locs : List Loc) (ls : Array Slot), zk_G D aA [(b 100, .inr (8, [.ref (b 0), .ref (b 1), .ref (b 2), .ref (b 3), .int (m 4), .int (m 5), .int (nI n), .int (nI inow), .ref (b 8), .int (m 9), .ref (b 10), .int (m 11), .int (m 12), .int (m 13), .int (m 14), .int (m 15), .int (m 16), .ref (b 17), .ref (b 18), .ref (b 19), .ref (b 20), .ref (b 21), .ref (b 22), .ref (b 23), .ref (b 24), .int (m 25), .int (m 26), .int (m 27), .int (nI im), .ref (b 29), .ref (b 30), .int (m 31), .int (zk_b ik), .int (nI iw), .int (nI inow), .int (nI im), .ref (b 36), .ref (b 37), .int (m 38), .ref (b 39), .ref (b 40), .int (m 41), .int (m 42), .int (m 43), .ref (b 44), .ref (b 45), .ref (b 46), .ref (b 47)])), (b 29, .inl (g 0, 40, .inl (zs_fill IM MS s))), (b 30, .inl (g 0, 6, .inl (fun i => nI (HD i)))), (b 36, .inl (g 0, 40, .inl IM)), (b 37, .inl (g 0, 6, .inl (fun i => nI (IH i))))] sS H locs → lv_has ls 2 [(0, .ref (b 100)), (1, .int (nI s))] → W pP l eE rm_X8_back sS mM args below meth cC H locs 0 0 qQ (F0 mM 28 ls []) := by
      intro nN
      induction nN with
      | zero => intros; omega
      | succ nN ih28 =>
        intro s hμ h1 H locs ls G hl
        refine lv_iload_n Z.1 Z.2.1 dX8_back_28 rfl (lv_at hl 1 rfl) ?_
        refine lv_bipush (v := nI 40) Z.1 Z.2.1 dX8_back_29 (by decide +kernel) ?_
        refine lv_icmp_ge (tgt := 52) Z.1 Z.2.1 dX8_back_31 (by decide) (fun c31 => ?_) (fun c31 => ?_)
        · have c31 : 40 ≤ s := zk_le (by omega) (by omega) c31
          have e40 : s = 40 := by omega
          subst e40
          have G : zk_G D aA [(b 100, .inr (8, [.ref (b 0), .ref (b 1), .ref (b 2), .ref (b 3), .int (m 4), .int (m 5), .int (nI n), .int (nI inow), .ref (b 8), .int (m 9), .ref (b 10), .int (m 11), .int (m 12), .int (m 13), .int (m 14), .int (m 15), .int (m 16), .ref (b 17), .ref (b 18), .ref (b 19), .ref (b 20), .ref (b 21), .ref (b 22), .ref (b 23), .ref (b 24), .int (m 25), .int (m 26), .int (m 27), .int (nI im), .ref (b 29), .ref (b 30), .int (m 31), .int (zk_b ik), .int (nI iw), .int (nI inow), .int (nI im), .ref (b 36), .ref (b 37), .int (m 38), .ref (b 39), .ref (b 40), .int (m 41), .int (m 42), .int (m 43), .ref (b 44), .ref (b 45), .ref (b 46), .ref (b 47)])), (b 29, .inl (g 0, 40, .inl (zs_fill IM MS 40))), (b 30, .inl (g 0, 6, .inl (fun i => nI ((zs_fill (fun w => if w < iw then IH w else 0) HD 0) i)))), (b 36, .inl (g 0, 40, .inl IM)), (b 37, .inl (g 0, 6, .inl (fun i => nI (IH i))))] sS H locs := (by rw [zs_fill_0 (fun w => if w < iw then IH w else 0)]; exact G)
          refine lv_iconst (v := nI 0) Z.1 Z.2.1 dX8_back_52 (by decide +kernel) ?_
          refine lv_istore_n (lv' := [(1, .int (nI 0)), (0, .ref (b 100))]) Z.1 Z.2.1 dX8_back_53 rfl hl (by decide) rfl (fun ls hl => ?_)
          have L54 : ∀ (nN : Nat) (s : Nat), 6 - s < nN → (s ≤ 6) → ∀ (H : Heap) (locs : List Loc) (ls : Array Slot), zk_G D aA [(b 100, .inr (8, [.ref (b 0), .ref (b 1), .ref (b 2), .ref (b 3), .int (m 4), .int (m 5), .int (nI n), .int (nI inow), .ref (b 8), .int (m 9), .ref (b 10), .int (m 11), .int (m 12), .int (m 13), .int (m 14), .int (m 15), .int (m 16), .ref (b 17), .ref (b 18), .ref (b 19), .ref (b 20), .ref (b 21), .ref (b 22), .ref (b 23), .ref (b 24), .int (m 25), .int (m 26), .int (m 27), .int (nI im), .ref (b 29), .ref (b 30), .int (m 31), .int (zk_b ik), .int (nI iw), .int (nI inow), .int (nI im), .ref (b 36), .ref (b 37), .int (m 38), .ref (b 39), .ref (b 40), .int (m 41), .int (m 42), .int (m 43), .ref (b 44), .ref (b 45), .ref (b 46), .ref (b 47)])), (b 29, .inl (g 0, 40, .inl (zs_fill IM MS 40))), (b 30, .inl (g 0, 6, .inl (fun i => nI ((zs_fill (fun w => if w < iw then IH w else 0) HD s) i)))), (b 36, .inl (g 0, 40, .inl IM)), (b 37, .inl (g 0, 6, .inl (fun i => nI (IH i))))] sS H locs → lv_has ls 2 [(0, .ref (b 100)), (1, .int (nI s))] → W pP l eE rm_X8_back sS mM args below meth cC H locs 0 0 qQ (F0 mM 54 ls []) := by
            intro nN
            induction nN with
            | zero => intros; omega
            | succ nN ih54 =>
              intro s hμ h1 H locs ls G hl
              refine lv_iload_n Z.1 Z.2.1 dX8_back_54 rfl (lv_at hl 1 rfl) ?_
              refine lv_bipush (v := nI 6) Z.1 Z.2.1 dX8_back_55 (by decide +kernel) ?_
              refine lv_icmp_ge (tgt := 90) Z.1 Z.2.1 dX8_back_57 (by decide) (fun c57 => ?_) (fun c57 => ?_)
              · have c57 : 6 ≤ s := zk_le (by omega) (by omega) c57
                refine lv_aload_n Z.1 Z.2.1 dX8_back_90 rfl (lv_at hl 0 rfl) ?_
                refine zk_get (C := RX8) (T := TX8) (N := 48) (ci := 8) Z hK G hinX8 0 rfl rfl 7 (by decide) (List.mem_cons_of_mem _ wa8_73) rfl (v := .int (nI inow)) rfl dX8_back_91 ?_
                exact zk_reti Z hR_ hlk hK hQ G () (by rw [if_pos c4_0]) (by rw [if_pos c4_0, if_pos c4_0, if_pos c4_0, if_pos c4_0, show s = 6 by omega]) dX8_back_94
              have c57 : s < 6 := zk_nle (by omega) (by omega) c57
              refine lv_aload_n Z.1 Z.2.1 dX8_back_60 rfl (lv_at hl 0 rfl) ?_
              refine zk_get (C := RX8) (T := TX8) (N := 48) (ci := 8) Z hK G hinX8 0 rfl rfl 30 (by decide) (List.mem_cons_of_mem _ wa8_23) rfl (v := .ref (b 30)) rfl dX8_back_61 ?_
              refine lv_iload_n Z.1 Z.2.1 dX8_back_64 rfl (lv_at hl 1 rfl) ?_
              refine lv_iload_n Z.1 Z.2.1 dX8_back_65 rfl (lv_at hl 1 rfl) ?_
              refine lv_aload_n Z.1 Z.2.1 dX8_back_66 rfl (lv_at hl 0 rfl) ?_
              refine zk_get (C := RX8) (T := TX8) (N := 48) (ci := 8) Z hK G hinX8 0 rfl rfl 33 (by decide) (List.mem_cons_of_mem _ wa8_254) rfl (v := .int (nI iw)) rfl dX8_back_67 ?_
              refine lv_icmp_ge (tgt := 82) Z.1 Z.2.1 dX8_back_70 (by decide) (fun c70 => ?_) (fun c70 => ?_)
              · have c70 : iw ≤ s := zk_le (by omega) (by omega) c70
                refine lv_iconst (v := nI 0) Z.1 Z.2.1 dX8_back_82 (by decide +kernel) ?_
                refine zk_iast Z hK G 2 rfl (k := s) (by omega) (by decide) (by rw [← zs_fill_n]; congr 2; show 0 = if s < iw then IH s else 0; rw [if_neg (Nat.not_lt.mpr c70)]) (ws' := [(b 100, .inr (8, [.ref (b 0), .ref (b 1), .ref (b 2), .ref (b 3), .int (m 4), .int (m 5), .int (nI n), .int (nI inow), .ref (b 8), .int (m 9), .ref (b 10), .int (m 11), .int (m 12), .int (m 13), .int (m 14), .int (m 15), .int (m 16), .ref (b 17), .ref (b 18), .ref (b 19), .ref (b 20), .ref (b 21), .ref (b 22), .ref (b 23), .ref (b 24), .int (m 25), .int (m 26), .int (m 27), .int (nI im), .ref (b 29), .ref (b 30), .int (m 31), .int (zk_b ik), .int (nI iw), .int (nI inow), .int (nI im), .ref (b 36), .ref (b 37), .int (m 38), .ref (b 39), .ref (b 40), .int (m 41), .int (m 42), .int (m 43), .ref (b 44), .ref (b 45), .ref (b 46), .ref (b 47)])), (b 29, .inl (g 0, 40, .inl (zs_fill IM MS 40))), (b 30, .inl (g 0, 6, .inl (fun i => nI ((zs_fill (fun w => if w < iw then IH w else 0) HD (s + 1)) i)))), (b 36, .inl (g 0, 40, .inl IM)), (b 37, .inl (g 0, 6, .inl (fun i => nI (IH i))))]) rfl dX8_back_83 (fun H locs G => ?_)
                refine lv_iinc (v := nI (s + 1)) (lv' := [(1, .int (nI (s + 1))), (0, .ref (b 100))]) Z.1 Z.2.1 dX8_back_84 hl (k := 1) rfl (zk_inc s 1) (by decide) rfl (fun ls hl => ?_)
                refine lv_goto (tgt := 54) Z.1 Z.2.1 dX8_back_87 (by decide) ?_
                exact ih54 (s + 1) (by omega) (by omega) _ _ _ G (lv_sub hl [1, 0] rfl)
              have c70 : s < iw := zk_nle (by omega) (by omega) c70
              refine lv_aload_n Z.1 Z.2.1 dX8_back_73 rfl (lv_at hl 0 rfl) ?_
              refine zk_get (C := RX8) (T := TX8) (N := 48) (ci := 8) Z hK G hinX8 0 rfl rfl 37 (by decide) (List.mem_cons_of_mem _ wa8_25) rfl (v := .ref (b 37)) rfl dX8_back_74 ?_
              refine lv_iload_n Z.1 Z.2.1 dX8_back_77 rfl (lv_at hl 1 rfl) ?_
              refine zk_iald Z hK G 4 rfl (k := s) (by omega) (by decide) (v := nI (IH s)) rfl dX8_back_78 ?_
              refine lv_goto (tgt := 83) Z.1 Z.2.1 dX8_back_79 (by decide) ?_
              refine zk_iast Z hK G 2 rfl (k := s) (by omega) (by decide) (by rw [← zs_fill_n]; congr 2; show IH s = if s < iw then IH s else 0; rw [if_pos c70]) (ws' := [(b 100, .inr (8, [.ref (b 0), .ref (b 1), .ref (b 2), .ref (b 3), .int (m 4), .int (m 5), .int (nI n), .int (nI inow), .ref (b 8), .int (m 9), .ref (b 10), .int (m 11), .int (m 12), .int (m 13), .int (m 14), .int (m 15), .int (m 16), .ref (b 17), .ref (b 18), .ref (b 19), .ref (b 20), .ref (b 21), .ref (b 22), .ref (b 23), .ref (b 24), .int (m 25), .int (m 26), .int (m 27), .int (nI im), .ref (b 29), .ref (b 30), .int (m 31), .int (zk_b ik), .int (nI iw), .int (nI inow), .int (nI im), .ref (b 36), .ref (b 37), .int (m 38), .ref (b 39), .ref (b 40), .int (m 41), .int (m 42), .int (m 43), .ref (b 44), .ref (b 45), .ref (b 46), .ref (b 47)])), (b 29, .inl (g 0, 40, .inl (zs_fill IM MS 40))), (b 30, .inl (g 0, 6, .inl (fun i => nI ((zs_fill (fun w => if w < iw then IH w else 0) HD (s + 1)) i)))), (b 36, .inl (g 0, 40, .inl IM)), (b 37, .inl (g 0, 6, .inl (fun i => nI (IH i))))]) rfl dX8_back_83 (fun H locs G => ?_)
              refine lv_iinc (v := nI (s + 1)) (lv' := [(1, .int (nI (s + 1))), (0, .ref (b 100))]) Z.1 Z.2.1 dX8_back_84 hl (k := 1) rfl (zk_inc s 1) (by decide) rfl (fun ls hl => ?_)
              refine lv_goto (tgt := 54) Z.1 Z.2.1 dX8_back_87 (by decide) ?_
              exact ih54 (s + 1) (by omega) (by omega) _ _ _ G (lv_sub hl [1, 0] rfl)
          exact L54 _ 0 (Nat.lt_succ_self _) (by omega) _ _ _ G (lv_sub hl [1, 0] rfl)
        have c31 : s < 40 := zk_nle (by omega) (by omega) c31
        refine lv_aload_n Z.1 Z.2.1 dX8_back_34 rfl (lv_at hl 0 rfl) ?_
        refine zk_get (C := RX8) (T := TX8) (N := 48) (ci := 8) Z hK G hinX8 0 rfl rfl 29 (by decide) (List.mem_cons_of_mem _ wa8_22) rfl (v := .ref (b 29)) rfl dX8_back_35 ?_
        refine lv_iload_n Z.1 Z.2.1 dX8_back_38 rfl (lv_at hl 1 rfl) ?_
        refine lv_aload_n Z.1 Z.2.1 dX8_back_39 rfl (lv_at hl 0 rfl) ?_
        refine zk_get (C := RX8) (T := TX8) (N := 48) (ci := 8) Z hK G hinX8 0 rfl rfl 36 (by decide) (List.mem_cons_of_mem _ wa8_24) rfl (v := .ref (b 36)) rfl dX8_back_40 ?_
        refine lv_iload_n Z.1 Z.2.1 dX8_back_43 rfl (lv_at hl 1 rfl) ?_
        refine zk_iald Z hK G 3 rfl (k := s) (by omega) (by decide) (v := IM s) rfl dX8_back_44 ?_
        refine zk_iast Z hK G 1 rfl (k := s) (by omega) (by decide) (zs_fill_s _ _ _) (ws' := [(b 100, .inr (8, [.ref (b 0), .ref (b 1), .ref (b 2), .ref (b 3), .int (m 4), .int (m 5), .int (nI n), .int (nI inow), .ref (b 8), .int (m 9), .ref (b 10), .int (m 11), .int (m 12), .int (m 13), .int (m 14), .int (m 15), .int (m 16), .ref (b 17), .ref (b 18), .ref (b 19), .ref (b 20), .ref (b 21), .ref (b 22), .ref (b 23), .ref (b 24), .int (m 25), .int (m 26), .int (m 27), .int (nI im), .ref (b 29), .ref (b 30), .int (m 31), .int (zk_b ik), .int (nI iw), .int (nI inow), .int (nI im), .ref (b 36), .ref (b 37), .int (m 38), .ref (b 39), .ref (b 40), .int (m 41), .int (m 42), .int (m 43), .ref (b 44), .ref (b 45), .ref (b 46), .ref (b 47)])), (b 29, .inl (g 0, 40, .inl (zs_fill IM MS (s + 1)))), (b 30, .inl (g 0, 6, .inl (fun i => nI (HD i)))), (b 36, .inl (g 0, 40, .inl IM)), (b 37, .inl (g 0, 6, .inl (fun i => nI (IH i))))]) rfl dX8_back_45 (fun H locs G => ?_)
        refine lv_iinc (v := nI (s + 1)) (lv' := [(1, .int (nI (s + 1))), (0, .ref (b 100))]) Z.1 Z.2.1 dX8_back_46 hl (k := 1) rfl (zk_inc s 1) (by decide) rfl (fun ls hl => ?_)
        refine lv_goto (tgt := 28) Z.1 Z.2.1 dX8_back_49 (by decide) ?_
        exact ih28 (s + 1) (by omega) (by omega) _ _ _ G (lv_sub hl [1, 0] rfl)
    exact L28 _ 0 (Nat.lt_succ_self _) (by omega) _ _ _ G (lv_sub hl [1, 0] rfl)
  have c4 : ik = false := zk_b0.mp c4
  refine lv_bipush (v := (-5)) Z.1 Z.2.1 dX8_back_7 (by decide +kernel) ?_
  exact zk_reti Z hR_ hlk hK hQ G () (by rw [if_neg (by rw [c4]; decide)]) (by rw [if_neg (by rw [c4]; decide), if_neg (by rw [c4]; decide), if_neg (by rw [c4]; decide), if_neg (by rw [c4]; decide)]) dX8_back_9

abbrev rm_X8_taken : Room := { frames := 2, cells := 0, slots := 0, locals := 45 }
theorem dvX8_taken : zk_dv yX8_taken RX8 2 := by decide +kernel
theorem gmX8_taken_X8_isShelf : GoodIn wmX8_taken (va_wsS RX8 118 yX8_isShelf wmX8_isShelf) := goodIn_app (wa8_w (List.forall_mem_cons.mpr ⟨wa8_62, List.forall_mem_cons.mpr ⟨wa8_63, List.forall_mem_cons.mpr ⟨wa8_43, fun _ h => absurd h List.not_mem_nil⟩⟩⟩)) (wa8_sub wa8_64)
theorem gmX8_taken_X8_within : GoodIn wmX8_taken (va_wsS RX8 97 yX8_within wmX8_within) := goodIn_app (wa8_w (List.forall_mem_cons.mpr ⟨wa8_41, List.forall_mem_cons.mpr ⟨wa8_42, List.forall_mem_cons.mpr ⟨wa8_43, fun _ h => absurd h List.not_mem_nil⟩⟩⟩)) (wa8_sub wa8_0)
theorem gmX8_taken_X8_kindOf : GoodIn wmX8_taken (wsV RX8 355 RX8 yX8_kindOf wmX8_kindOf) := goodIn_app (wa8_w (List.forall_mem_cons.mpr ⟨wa8_305, List.forall_mem_cons.mpr ⟨wa8_306, List.forall_mem_cons.mpr ⟨wa8_307, List.forall_mem_cons.mpr ⟨wa8_43, fun _ h => absurd h List.not_mem_nil⟩⟩⟩⟩)) (wa8_sub wa8_260)
theorem gmX8_taken_X8_above : GoodIn wmX8_taken (va_wsS RX8 358 yX8_above wmX8_above) := goodIn_app (wa8_w (List.forall_mem_cons.mpr ⟨wa8_308, List.forall_mem_cons.mpr ⟨wa8_309, List.forall_mem_cons.mpr ⟨wa8_43, fun _ h => absurd h List.not_mem_nil⟩⟩⟩)) (wa8_sub wa8_263)
set_option maxRecDepth 100000 in
set_option maxHeartbeats 400000 in
theorem ct_X8_taken (l : Launch) (D : va_G) (g : Nat → ClassId) (τ : Nat → Nat) (b : Nat → Nat) (m : Nat → Int32) (KD : Nat → Nat) (SH : Nat → Int32) (x : Int32) (y : Int32) (hkd : ∀ i, KD i < 8) : zk_MI l D g τ yX8_taken wmX8_taken rm_X8_taken [.ref (b 100), .int x, .int y] [(b 100, .inr (8, [.ref (b 0), .ref (b 1), .ref (b 2), .ref (b 3), .int (m 4), .int (m 5), .int (m 6), .int (m 7), .ref (b 8), .int (m 9), .ref (b 10), .int (m 11), .int (m 12), .int (m 13), .int (m 14), .int (m 15), .int (m 16), .ref (b 17), .ref (b 18), .ref (b 19), .ref (b 20), .ref (b 21), .ref (b 22), .ref (b 23), .ref (b 24), .int (m 25), .int (m 26), .int (m 27), .int (m 28), .ref (b 29), .ref (b 30), .int (m 31), .int (m 32), .int (m 33), .int (m 34), .int (m 35), .ref (b 36), .ref (b 37), .int (m 38), .ref (b 39), .ref (b 40), .int (m 41), .int (m 42), .int (m 43), .ref (b 44), .ref (b 45), .ref (b 46), .ref (b 47)])), (b 39, .inl (g 0, 50, .inl (fun i => nI (KD i)))), (b 44, .inl (g 0, 6, .inl SH))] (fun (r : Int32) (_ : Unit) => r = zm_taken SH KD x y) (fun (_ : Unit) => [(b 100, .inr (8, [.ref (b 0), .ref (b 1), .ref (b 2), .ref (b 3), .int (m 4), .int (m 5), .int (m 6), .int (m 7), .ref (b 8), .int (m 9), .ref (b 10), .int (m 11), .int (m 12), .int (m 13), .int (m 14), .int (m 15), .int (m 16), .ref (b 17), .ref (b 18), .ref (b 19), .ref (b 20), .ref (b 21), .ref (b 22), .ref (b 23), .ref (b 24), .int (m 25), .int (m 26), .int (m 27), .int (m 28), .ref (b 29), .ref (b 30), .int (m 31), .int (m 32), .int (m 33), .int (m 34), .int (m 35), .ref (b 36), .ref (b 37), .int (m 38), .ref (b 39), .ref (b 40), .int (m 41), .int (m 42), .int (m 43), .ref (b 44), .ref (b 45), .ref (b 46), .ref (b 47)])), (b 39, .inl (g 0, 50, .inl (fun i => nI (KD i)))), (b 44, .inl (g 0, 6, .inl SH))]) := by
  refine zk_of (av := [.ref (b 100), .int x, .int y]) (W0 := [(b 100, .inr (8, [.ref (b 0), .ref (b 1), .ref (b 2), .ref (b 3), .int (m 4), .int (m 5), .int (m 6), .int (m 7), .ref (b 8), .int (m 9), .ref (b 10), .int (m 11), .int (m 12), .int (m 13), .int (m 14), .int (m 15), .int (m 16), .ref (b 17), .ref (b 18), .ref (b 19), .ref (b 20), .ref (b 21), .ref (b 22), .ref (b 23), .ref (b 24), .int (m 25), .int (m 26), .int (m 27), .int (m 28), .ref (b 29), .ref (b 30), .int (m 31), .int (m 32), .int (m 33), .int (m 34), .int (m 35), .ref (b 36), .ref (b 37), .int (m 38), .ref (b 39), .ref (b 40), .int (m 41), .int (m 42), .int (m 43), .ref (b 44), .ref (b 45), .ref (b 46), .ref (b 47)])), (b 39, .inl (g 0, 50, .inl (fun i => nI (KD i)))), (b 44, .inl (g 0, 6, .inl SH))]) (y := yX8_taken) (wd := wmX8_taken) (Qc := fun A => va_Qi (fun (r : Int32) (_ : Unit) => r = zm_taken SH KD x y) (zk_B D g A (fun (_ : Unit) => [(b 100, .inr (8, [.ref (b 0), .ref (b 1), .ref (b 2), .ref (b 3), .int (m 4), .int (m 5), .int (m 6), .int (m 7), .ref (b 8), .int (m 9), .ref (b 10), .int (m 11), .int (m 12), .int (m 13), .int (m 14), .int (m 15), .int (m 16), .ref (b 17), .ref (b 18), .ref (b 19), .ref (b 20), .ref (b 21), .ref (b 22), .ref (b 23), .ref (b 24), .int (m 25), .int (m 26), .int (m 27), .int (m 28), .ref (b 29), .ref (b 30), .int (m 31), .int (m 32), .int (m 33), .int (m 34), .int (m 35), .ref (b 36), .ref (b 37), .int (m 38), .ref (b 39), .ref (b 40), .int (m 41), .int (m 42), .int (m 43), .ref (b 44), .ref (b 45), .ref (b 46), .ref (b 47)])), (b 39, .inl (g 0, 50, .inl (fun i => nI (KD i)))), (b 44, .inl (g 0, 6, .inl SH))])) A) (cc := cX8_taken) (maxL := 4) (ret := (some .int)) (own := RX8) (by decide) rfl rfl (Nat.le_of_ble_eq_true rfl) ?_
  intro pP eE sS mM args below meth cC aA ls qQ Z hR_ hlk hnm hK hT hA hQ G hl
  have hinX8 : ∀ w ∈ u_ws RX8 TX8 48, w ∈ wmX8_taken := wa8_in
  refine lv_iload_n Z.1 Z.2.1 dX8_taken_0 rfl (lv_at hl 1 rfl) ?_
  refine zk_ci (WF := fun (_ : Unit) => [(b 100, .inr (8, [.ref (b 0), .ref (b 1), .ref (b 2), .ref (b 3), .int (m 4), .int (m 5), .int (m 6), .int (m 7), .ref (b 8), .int (m 9), .ref (b 10), .int (m 11), .int (m 12), .int (m 13), .int (m 14), .int (m 15), .int (m 16), .ref (b 17), .ref (b 18), .ref (b 19), .ref (b 20), .ref (b 21), .ref (b 22), .ref (b 23), .ref (b 24), .int (m 25), .int (m 26), .int (m 27), .int (m 28), .ref (b 29), .ref (b 30), .int (m 31), .int (m 32), .int (m 33), .int (m 34), .int (m 35), .ref (b 36), .ref (b 37), .int (m 38), .ref (b 39), .ref (b 40), .int (m 41), .int (m 42), .int (m 43), .ref (b 44), .ref (b 45), .ref (b 46), .ref (b 47)])), (b 39, .inl (g 0, 50, .inl (fun i => nI (KD i)))), (b 44, .inl (g 0, 6, .inl SH))]) (wr := [(b 100, .inr (8, [.ref (b 0), .ref (b 1), .ref (b 2), .ref (b 3), .int (m 4), .int (m 5), .int (m 6), .int (m 7), .ref (b 8), .int (m 9), .ref (b 10), .int (m 11), .int (m 12), .int (m 13), .int (m 14), .int (m 15), .int (m 16), .ref (b 17), .ref (b 18), .ref (b 19), .ref (b 20), .ref (b 21), .ref (b 22), .ref (b 23), .ref (b 24), .int (m 25), .int (m 26), .int (m 27), .int (m 28), .ref (b 29), .ref (b 30), .int (m 31), .int (m 32), .int (m 33), .int (m 34), .int (m 35), .ref (b 36), .ref (b 37), .int (m 38), .ref (b 39), .ref (b 40), .int (m 41), .int (m 42), .int (m 43), .ref (b 44), .ref (b 45), .ref (b 46), .ref (b 47)])), (b 39, .inl (g 0, 50, .inl (fun i => nI (KD i)))), (b 44, .inl (g 0, 6, .inl SH))]) ⟨rfl, rfl⟩ (zk_rs (As := [.int x]) (rest := []) Z ((ct_X8_isShelf l D g τ x ) sS.heap.size) hK hT hA G [] rfl (by decide) gmX8_taken_X8_isShelf rfl dvX8_isShelf ⟨by decide, by decide⟩ rfl hl.1 rfl (Nat.le_of_ble_eq_true rfl) dX8_taken_1 ⟨Nat.zero_le _, Nat.zero_le _⟩) hA G [] [0, 1, 2] [0, 1, 2] rfl rfl (by decide) (by decide) (by decide) (fun _ => rfl) (fun r_1 _ H locs w_1 G => ?_)
  obtain rfl : r_1 = zk_b (zb_w 6 x) := w_1
  refine lv_if_eq (tgt := 19) Z.1 Z.2.1 dX8_taken_4 (by decide) (fun c4 => ?_) (fun c4 => ?_)
  · have c4 : (zb_w 6 x) = false := zk_b0.mp c4
    refine lv_iconst (v := (-1)) Z.1 Z.2.1 dX8_taken_19 (by decide +kernel) ?_
    exact zk_reti Z hR_ hlk hK hQ G () (by unfold zm_taken; rw [c4]; rfl) rfl dX8_taken_20
  have c4 : (zb_w 6 x) = true := zk_b1.mp c4
  have c4_0 := c4
  obtain ⟨d, hd, rfl, hd2⟩ := zb_w_ex c4
  refine lv_iload_n Z.1 Z.2.1 dX8_taken_7 rfl (lv_at hl 2 rfl) ?_
  refine lv_i2l (v := y.toInt64) Z.1 Z.2.1 dX8_taken_8 rfl ?_
  refine lv_lconst (v := lN 0) Z.1 Z.2.1 dX8_taken_9 (by decide +kernel) ?_
  refine lv_ldc2 (v := lN 7) Z.1 Z.2.1 Z.2.2.2.1 (Z.2.2.2.2 _ (List.mem_cons_of_mem _ wa8_262)) dX8_taken_10 ?_
  refine zk_ci (WF := fun (_ : Unit) => [(b 100, .inr (8, [.ref (b 0), .ref (b 1), .ref (b 2), .ref (b 3), .int (m 4), .int (m 5), .int (m 6), .int (m 7), .ref (b 8), .int (m 9), .ref (b 10), .int (m 11), .int (m 12), .int (m 13), .int (m 14), .int (m 15), .int (m 16), .ref (b 17), .ref (b 18), .ref (b 19), .ref (b 20), .ref (b 21), .ref (b 22), .ref (b 23), .ref (b 24), .int (m 25), .int (m 26), .int (m 27), .int (m 28), .ref (b 29), .ref (b 30), .int (m 31), .int (m 32), .int (m 33), .int (m 34), .int (m 35), .ref (b 36), .ref (b 37), .int (m 38), .ref (b 39), .ref (b 40), .int (m 41), .int (m 42), .int (m 43), .ref (b 44), .ref (b 45), .ref (b 46), .ref (b 47)])), (b 39, .inl (g 0, 50, .inl (fun i => nI (KD i)))), (b 44, .inl (g 0, 6, .inl SH))]) (wr := [(b 100, .inr (8, [.ref (b 0), .ref (b 1), .ref (b 2), .ref (b 3), .int (m 4), .int (m 5), .int (m 6), .int (m 7), .ref (b 8), .int (m 9), .ref (b 10), .int (m 11), .int (m 12), .int (m 13), .int (m 14), .int (m 15), .int (m 16), .ref (b 17), .ref (b 18), .ref (b 19), .ref (b 20), .ref (b 21), .ref (b 22), .ref (b 23), .ref (b 24), .int (m 25), .int (m 26), .int (m 27), .int (m 28), .ref (b 29), .ref (b 30), .int (m 31), .int (m 32), .int (m 33), .int (m 34), .int (m 35), .ref (b 36), .ref (b 37), .int (m 38), .ref (b 39), .ref (b 40), .int (m 41), .int (m 42), .int (m 43), .ref (b 44), .ref (b 45), .ref (b 46), .ref (b 47)])), (b 39, .inl (g 0, 50, .inl (fun i => nI (KD i)))), (b 44, .inl (g 0, 6, .inl SH))]) ⟨rfl, rfl⟩ (zk_rs (As := [.long y.toInt64, .long (lN 0), .long (lN 7)]) (rest := []) Z ((ct_X8_within l D g τ y.toInt64 (lN 0) (lN 7) ) H.size) hK hT hA G [] rfl (by decide) gmX8_taken_X8_within rfl dvX8_within ⟨by decide, by decide⟩ rfl hl.1 rfl (Nat.le_of_ble_eq_true rfl) dX8_taken_13 ⟨Nat.zero_le _, Nat.zero_le _⟩) hA G [] [0, 1, 2] [0, 1, 2] rfl rfl (by decide) (by decide) (by decide) (fun _ => rfl) (fun r_13 _ H locs w_13 G => ?_)
  obtain rfl : r_13 = zk_b (zm_in y.toInt64 (lN 0) (lN 7)) := w_13
  refine lv_if_ne (tgt := 21) Z.1 Z.2.1 dX8_taken_16 (by decide) (fun c16 => ?_) (fun c16 => ?_)
  · have c16 : (zm_in y.toInt64 (lN 0) (lN 7)) = true := zk_b1.mp c16
    have c16_0 : zr_kind y = true := by rw [zr_kind_w, ← zm_in_n (m := 7) (by decide)]; exact c16
    obtain ⟨k, hk, rfl⟩ := zr_kind_ex c16_0
    have hk31 : k < 2 ^ 31 := by omega
    refine lv_aload_n Z.1 Z.2.1 dX8_taken_21 rfl (lv_at hl 0 rfl) ?_
    refine zk_get (C := RX8) (T := TX8) (N := 48) (ci := 8) Z hK G hinX8 0 rfl rfl 44 (by decide) (List.mem_cons_of_mem _ wa8_28) rfl (v := .ref (b 44)) rfl dX8_taken_22 ?_
    refine lv_iload_n Z.1 Z.2.1 dX8_taken_25 rfl (lv_at hl 1 rfl) ?_
    refine zk_iald Z hK G 2 rfl (k := d) (by omega) (by decide) (v := SH d) rfl dX8_taken_26 ?_
    refine lv_if_ge (tgt := 33) Z.1 Z.2.1 dX8_taken_27 (by decide) (fun c27 => ?_) (fun c27 => ?_)
    · have c27 : 0 ≤ SH d := c27
      have c27n : ¬ SH d < 0 := Int32.not_lt.mpr c27
      refine lv_aload_n Z.1 Z.2.1 dX8_taken_33 rfl (lv_at hl 0 rfl) ?_
      refine zk_get (C := RX8) (T := TX8) (N := 48) (ci := 8) Z hK G hinX8 0 rfl rfl 44 (by decide) (List.mem_cons_of_mem _ wa8_28) rfl (v := .ref (b 44)) rfl dX8_taken_34 ?_
      refine lv_iload_n Z.1 Z.2.1 dX8_taken_37 rfl (lv_at hl 1 rfl) ?_
      refine zk_iald Z hK G 2 rfl (k := d) (by omega) (by decide) (v := SH d) rfl dX8_taken_38 ?_
      refine lv_bipush (v := nI 50) Z.1 Z.2.1 dX8_taken_39 (by decide +kernel) ?_
      refine lv_icmp_lt (tgt := 47) Z.1 Z.2.1 dX8_taken_41 (by decide) (fun c41 => ?_) (fun c41 => ?_)
      · have c41 : SH d < 50 := c41
        have c41n : ¬ 50 ≤ SH d := Int32.not_le.mpr c41
        obtain ⟨r, hr, er⟩ := nI_of (show ¬ SH d < 0 from c27n)
        have hr50 : r < 50 := by rw [er] at c41n; exact zk_nle (a := 50) (by decide) hr c41n
        obtain ⟨V, hV⟩ : ∃ V, V = zm_un 8 (KD r) k := ⟨_, rfl⟩
        refine lv_aload_n Z.1 Z.2.1 dX8_taken_47 rfl (lv_at hl 0 rfl) ?_
        refine lv_aload_n Z.1 Z.2.1 dX8_taken_48 rfl (lv_at hl 0 rfl) ?_
        refine zk_get (C := RX8) (T := TX8) (N := 48) (ci := 8) Z hK G hinX8 0 rfl rfl 44 (by decide) (List.mem_cons_of_mem _ wa8_28) rfl (v := .ref (b 44)) rfl dX8_taken_49 ?_
        refine lv_iload_n Z.1 Z.2.1 dX8_taken_52 rfl (lv_at hl 1 rfl) ?_
        refine zk_iald Z hK G 2 rfl (k := d) (by omega) (by decide) (v := nI r) er dX8_taken_53 ?_
        refine zk_ci (WF := fun (_ : Unit) => [(b 100, .inr (8, [.ref (b 0), .ref (b 1), .ref (b 2), .ref (b 3), .int (m 4), .int (m 5), .int (m 6), .int (m 7), .ref (b 8), .int (m 9), .ref (b 10), .int (m 11), .int (m 12), .int (m 13), .int (m 14), .int (m 15), .int (m 16), .ref (b 17), .ref (b 18), .ref (b 19), .ref (b 20), .ref (b 21), .ref (b 22), .ref (b 23), .ref (b 24), .int (m 25), .int (m 26), .int (m 27), .int (m 28), .ref (b 29), .ref (b 30), .int (m 31), .int (m 32), .int (m 33), .int (m 34), .int (m 35), .ref (b 36), .ref (b 37), .int (m 38), .ref (b 39), .ref (b 40), .int (m 41), .int (m 42), .int (m 43), .ref (b 44), .ref (b 45), .ref (b 46), .ref (b 47)])), (b 39, .inl (g 0, 50, .inl (fun i => nI (KD i)))), (b 44, .inl (g 0, 6, .inl SH))]) (wr := [(b 44, .inl (g 0, 6, .inl SH))]) ⟨rfl, rfl⟩ (zk_rv (As := [.int (nI r)]) (rest := []) (q0 := 0) (ci := 8) Z ((ct_X8_kindOf l D g τ b m KD r (by omega)) H.size) hK hT hA G [0, 1] rfl (by decide) rfl rfl gmX8_taken_X8_kindOf rfl dvX8_kindOf ⟨by decide, by decide⟩ rfl hl.1 rfl (Nat.le_of_ble_eq_true rfl) dX8_taken_54 ⟨Nat.zero_le _, Nat.zero_le _⟩) hA G [0, 1] [2] [1, 2, 0] rfl rfl (by decide) (by decide) (by decide) (fun _ => rfl) (fun r_54 _ H locs w_54 G => ?_)
        obtain rfl : r_54 = nI (KD r) := w_54
        refine lv_istore_n (lv' := [(3, .int (nI (KD r))), (0, .ref (b 100)), (1, .int (nI d)), (2, .int (nI k))]) Z.1 Z.2.1 dX8_taken_57 rfl hl (by decide) rfl (fun ls hl => ?_)
        have L58 : ∀ (nN : Nat) (z : Nat) (f : Nat), f < nN → (z < 8) → (z < f) → (zm_un f z k = V) → ∀ (H : Heap) (locs : List Loc) (ls : Array Slot), zk_G D aA [(b 100, .inr (8, [.ref (b 0), .ref (b 1), .ref (b 2), .ref (b 3), .int (m 4), .int (m 5), .int (m 6), .int (m 7), .ref (b 8), .int (m 9), .ref (b 10), .int (m 11), .int (m 12), .int (m 13), .int (m 14), .int (m 15), .int (m 16), .ref (b 17), .ref (b 18), .ref (b 19), .ref (b 20), .ref (b 21), .ref (b 22), .ref (b 23), .ref (b 24), .int (m 25), .int (m 26), .int (m 27), .int (m 28), .ref (b 29), .ref (b 30), .int (m 31), .int (m 32), .int (m 33), .int (m 34), .int (m 35), .ref (b 36), .ref (b 37), .int (m 38), .ref (b 39), .ref (b 40), .int (m 41), .int (m 42), .int (m 43), .ref (b 44), .ref (b 45), .ref (b 46), .ref (b 47)])), (b 39, .inl (g 0, 50, .inl (fun i => nI (KD i)))), (b 44, .inl (g 0, 6, .inl SH))] sS H locs → lv_has ls 4 [(0, .ref (b 100)), (1, .int (nI d)), (2, .int (nI k)), (3, .int (nI z))] → W pP l eE rm_X8_taken sS mM args below meth cC H locs 0 0 qQ (F0 mM 58 ls []) := by
          intro nN
          induction nN with
          | zero => intros; omega
          | succ nN ih58 =>
            intro z f hμ hz8 hzf hs H locs ls G hl
            refine lv_iload_n Z.1 Z.2.1 dX8_taken_58 rfl (lv_at hl 3 rfl) ?_
            refine lv_iload_n Z.1 Z.2.1 dX8_taken_59 rfl (lv_at hl 2 rfl) ?_
            refine lv_icmp_eq (tgt := 75) Z.1 Z.2.1 dX8_taken_60 (by decide) (fun c60 => ?_) (fun c60 => ?_)
            · have c60 : z = k := zk_eq (by omega) (by omega) c60
              refine lv_iload_n Z.1 Z.2.1 dX8_taken_75 rfl (lv_at hl 3 rfl) ?_
              refine lv_iload_n Z.1 Z.2.1 dX8_taken_76 rfl (lv_at hl 2 rfl) ?_
              refine lv_icmp_ne (tgt := 93) Z.1 Z.2.1 dX8_taken_77 (by decide) (fun c77 => ?_) (fun c77 => ?_)
              · exfalso
                have c77 : z ≠ k := zk_neq (by omega) (by omega) c77
                exact c77 c60
              have c77 : z = k := zk_eq (by omega) (by omega) c77
              refine lv_aload_n Z.1 Z.2.1 dX8_taken_80 rfl (lv_at hl 0 rfl) ?_
              refine lv_aload_n Z.1 Z.2.1 dX8_taken_81 rfl (lv_at hl 0 rfl) ?_
              refine zk_get (C := RX8) (T := TX8) (N := 48) (ci := 8) Z hK G hinX8 0 rfl rfl 44 (by decide) (List.mem_cons_of_mem _ wa8_28) rfl (v := .ref (b 44)) rfl dX8_taken_82 ?_
              refine lv_iload_n Z.1 Z.2.1 dX8_taken_85 rfl (lv_at hl 1 rfl) ?_
              refine zk_iald Z hK G 2 rfl (k := d) (by omega) (by decide) (v := nI r) er dX8_taken_86 ?_
              refine zk_ci (WF := fun (_ : Unit) => [(b 100, .inr (8, [.ref (b 0), .ref (b 1), .ref (b 2), .ref (b 3), .int (m 4), .int (m 5), .int (m 6), .int (m 7), .ref (b 8), .int (m 9), .ref (b 10), .int (m 11), .int (m 12), .int (m 13), .int (m 14), .int (m 15), .int (m 16), .ref (b 17), .ref (b 18), .ref (b 19), .ref (b 20), .ref (b 21), .ref (b 22), .ref (b 23), .ref (b 24), .int (m 25), .int (m 26), .int (m 27), .int (m 28), .ref (b 29), .ref (b 30), .int (m 31), .int (m 32), .int (m 33), .int (m 34), .int (m 35), .ref (b 36), .ref (b 37), .int (m 38), .ref (b 39), .ref (b 40), .int (m 41), .int (m 42), .int (m 43), .ref (b 44), .ref (b 45), .ref (b 46), .ref (b 47)])), (b 39, .inl (g 0, 50, .inl (fun i => nI (KD i)))), (b 44, .inl (g 0, 6, .inl SH))]) (wr := [(b 44, .inl (g 0, 6, .inl SH))]) ⟨rfl, rfl⟩ (zk_rv (As := [.int (nI r)]) (rest := []) (q0 := 0) (ci := 8) Z ((ct_X8_kindOf l D g τ b m KD r (by omega)) H.size) hK hT hA G [0, 1] rfl (by decide) rfl rfl gmX8_taken_X8_kindOf rfl dvX8_kindOf ⟨by decide, by decide⟩ rfl hl.1 rfl (Nat.le_of_ble_eq_true rfl) dX8_taken_87 ⟨Nat.zero_le _, Nat.zero_le _⟩) hA G [0, 1] [2] [1, 2, 0] rfl rfl (by decide) (by decide) (by decide) (fun _ => rfl) (fun r_87 _ H locs w_87 G => ?_)
              obtain rfl : r_87 = nI (KD r) := w_87
              refine lv_goto (tgt := 95) Z.1 Z.2.1 dX8_taken_90 (by decide) ?_
              have hVe : V = true := by rw [← hs]; obtain ⟨f9, rfl⟩ : ∃ f9, f = f9 + 1 := ⟨f - 1, by omega⟩; simp only [zm_un]; rw [if_pos c77]
              rw [hVe] at hV
              exact zk_reti Z hR_ hlk hK hQ G () (by unfold zm_taken; rw [c4_0, c16_0, if_pos (by rfl), zb_nat hd, if_neg c27n, if_neg c41n, er, zb_nat hr, zb_nat hk31, ← hV]; rfl) rfl dX8_taken_95
            have c60 : z ≠ k := zk_neq (by omega) (by omega) c60
            obtain ⟨f9, rfl⟩ : ∃ f9, f = f9 + 1 := ⟨f - 1, by omega⟩
            refine lv_iload_n Z.1 Z.2.1 dX8_taken_63 rfl (lv_at hl 3 rfl) ?_
            refine lv_if_le (tgt := 75) Z.1 Z.2.1 dX8_taken_64 (by decide) (fun c64 => ?_) (fun c64 => ?_)
            · have c64 : z ≤ 0 := zk_le (by omega) (by omega) c64
              refine lv_iload_n Z.1 Z.2.1 dX8_taken_75 rfl (lv_at hl 3 rfl) ?_
              refine lv_iload_n Z.1 Z.2.1 dX8_taken_76 rfl (lv_at hl 2 rfl) ?_
              refine lv_icmp_ne (tgt := 93) Z.1 Z.2.1 dX8_taken_77 (by decide) (fun c77 => ?_) (fun c77 => ?_)
              · have c77 : z ≠ k := zk_neq (by omega) (by omega) c77
                refine lv_bipush (v := (-12)) Z.1 Z.2.1 dX8_taken_93 (by decide +kernel) ?_
                have hVe : V = false := by rw [← hs]; simp only [zm_un]; rw [if_neg c77, if_pos (by omega)]
                rw [hVe] at hV
                exact zk_reti Z hR_ hlk hK hQ G () (by unfold zm_taken; rw [c4_0, c16_0, if_pos (by rfl), zb_nat hd, if_neg c27n, if_neg c41n, er, zb_nat hr, zb_nat hk31, ← hV]; rfl) rfl dX8_taken_95
              exfalso
              have c77 : z = k := zk_eq (by omega) (by omega) c77
              exact c60 c77
            have c64 : 0 < z := zk_nle (by omega) (by omega) c64
            refine lv_iload_n Z.1 Z.2.1 dX8_taken_67 rfl (lv_at hl 3 rfl) ?_
            refine zk_ci (WF := fun (_ : Unit) => [(b 100, .inr (8, [.ref (b 0), .ref (b 1), .ref (b 2), .ref (b 3), .int (m 4), .int (m 5), .int (m 6), .int (m 7), .ref (b 8), .int (m 9), .ref (b 10), .int (m 11), .int (m 12), .int (m 13), .int (m 14), .int (m 15), .int (m 16), .ref (b 17), .ref (b 18), .ref (b 19), .ref (b 20), .ref (b 21), .ref (b 22), .ref (b 23), .ref (b 24), .int (m 25), .int (m 26), .int (m 27), .int (m 28), .ref (b 29), .ref (b 30), .int (m 31), .int (m 32), .int (m 33), .int (m 34), .int (m 35), .ref (b 36), .ref (b 37), .int (m 38), .ref (b 39), .ref (b 40), .int (m 41), .int (m 42), .int (m 43), .ref (b 44), .ref (b 45), .ref (b 46), .ref (b 47)])), (b 39, .inl (g 0, 50, .inl (fun i => nI (KD i)))), (b 44, .inl (g 0, 6, .inl SH))]) (wr := [(b 100, .inr (8, [.ref (b 0), .ref (b 1), .ref (b 2), .ref (b 3), .int (m 4), .int (m 5), .int (m 6), .int (m 7), .ref (b 8), .int (m 9), .ref (b 10), .int (m 11), .int (m 12), .int (m 13), .int (m 14), .int (m 15), .int (m 16), .ref (b 17), .ref (b 18), .ref (b 19), .ref (b 20), .ref (b 21), .ref (b 22), .ref (b 23), .ref (b 24), .int (m 25), .int (m 26), .int (m 27), .int (m 28), .ref (b 29), .ref (b 30), .int (m 31), .int (m 32), .int (m 33), .int (m 34), .int (m 35), .ref (b 36), .ref (b 37), .int (m 38), .ref (b 39), .ref (b 40), .int (m 41), .int (m 42), .int (m 43), .ref (b 44), .ref (b 45), .ref (b 46), .ref (b 47)])), (b 39, .inl (g 0, 50, .inl (fun i => nI (KD i)))), (b 44, .inl (g 0, 6, .inl SH))]) ⟨rfl, rfl⟩ (zk_rs (As := [.int (nI z)]) (rest := []) Z ((ct_X8_above l D g τ z (by omega)) H.size) hK hT hA G [] rfl (by decide) gmX8_taken_X8_above rfl dvX8_above ⟨by decide, by decide⟩ rfl hl.1 rfl (Nat.le_of_ble_eq_true rfl) dX8_taken_68 ⟨Nat.zero_le _, Nat.zero_le _⟩) hA G [] [0, 1, 2] [0, 1, 2] rfl rfl (by decide) (by decide) (by decide) (fun _ => rfl) (fun r_68 _ H locs w_68 G => ?_)
            obtain rfl : r_68 = nI (zm_ab z) := w_68
            refine lv_istore_n (lv' := [(3, .int (nI (zm_ab z))), (0, .ref (b 100)), (1, .int (nI d)), (2, .int (nI k))]) Z.1 Z.2.1 dX8_taken_71 rfl hl (by decide) rfl (fun ls hl => ?_)
            refine lv_goto (tgt := 58) Z.1 Z.2.1 dX8_taken_72 (by decide) ?_
            exact ih58 (zm_ab z) f9 (by omega) (by have := zm_ab_lt (x := z) (by omega) hz8; omega) (by have := zm_ab_lt (x := z) (by omega) hz8; omega) (by simp only [zm_un] at hs; rw [if_neg c60, if_neg (by omega)] at hs; exact hs) _ _ _ G (lv_sub hl [1, 2, 3, 0] rfl)
        exact L58 _ (KD r) 8 (Nat.lt_succ_self _) (by exact hkd _) (by exact hkd _) (by exact hV.symm) _ _ _ G (lv_sub hl [1, 2, 3, 0] rfl)
      have c41 : ¬ SH d < 50 := c41
      have c41n : 50 ≤ SH d := Int32.not_lt.mp c41
      refine lv_bipush (v := (-12)) Z.1 Z.2.1 dX8_taken_44 (by decide +kernel) ?_
      exact zk_reti Z hR_ hlk hK hQ G () (by unfold zm_taken; rw [c4_0, c16_0, if_pos (by rfl), zb_nat hd, if_neg c27n, if_pos c41n]) rfl dX8_taken_46
    have c27 : ¬ 0 ≤ SH d := c27
    have c27n : SH d < 0 := Int32.not_le.mp c27
    refine lv_bipush (v := (-11)) Z.1 Z.2.1 dX8_taken_30 (by decide +kernel) ?_
    exact zk_reti Z hR_ hlk hK hQ G () (by unfold zm_taken; rw [c4_0, c16_0, if_pos (by rfl), zb_nat hd, if_pos c27n]) rfl dX8_taken_32
  have c16 : (zm_in y.toInt64 (lN 0) (lN 7)) = false := zk_b0.mp c16
  refine lv_iconst (v := (-1)) Z.1 Z.2.1 dX8_taken_19 (by decide +kernel) ?_
  exact zk_reti Z hR_ hlk hK hQ G () (by unfold zm_taken; rw [show zr_kind y = false by rw [zr_kind_w, ← zm_in_n (m := 7) (by decide)]; exact c16, Bool.and_false]; rfl) rfl dX8_taken_20

abbrev rm_X8_shift : Room := { frames := 2, cells := 0, slots := 0, locals := 45 }
theorem dvX8_shift : zk_dv yX8_shift RX8 5 := by decide +kernel
theorem gmX8_shift_X8_isShelf : GoodIn wmX8_shift (va_wsS RX8 118 yX8_isShelf wmX8_isShelf) := goodIn_app (wa8_w (List.forall_mem_cons.mpr ⟨wa8_62, List.forall_mem_cons.mpr ⟨wa8_63, List.forall_mem_cons.mpr ⟨wa8_43, fun _ h => absurd h List.not_mem_nil⟩⟩⟩)) (wa8_sub wa8_64)
set_option maxRecDepth 100000 in
set_option maxHeartbeats 400000 in
theorem ct_X8_shift (l : Launch) (D : va_G) (g : Nat → ClassId) (τ : Nat → Nat) (b : Nat → Nat) (m : Nat → Int32) (SH : Nat → Int32) (MN : Nat → Nat) (IT : Nat → Int64) (CR : Nat → Int64) (x : Int32) (i9 : Int32) (x2 : Int32) (j9 : Int32) (nn : Int32) (hmn : ∀ i, MN i ≤ 60) : zk_MI l D g τ yX8_shift wmX8_shift rm_X8_shift [.ref (b 100), .int x, .int i9, .int x2, .int j9, .int nn] [(b 100, .inr (8, [.ref (b 0), .ref (b 1), .ref (b 2), .ref (b 3), .int (m 4), .int (m 5), .int (m 6), .int (m 7), .ref (b 8), .int (m 9), .ref (b 10), .int (m 11), .int (m 12), .int (m 13), .int (m 14), .int (m 15), .int (m 16), .ref (b 17), .ref (b 18), .ref (b 19), .ref (b 20), .ref (b 21), .ref (b 22), .ref (b 23), .ref (b 24), .int (m 25), .int (m 26), .int (m 27), .int (m 28), .ref (b 29), .ref (b 30), .int (m 31), .int (m 32), .int (m 33), .int (m 34), .int (m 35), .ref (b 36), .ref (b 37), .int (m 38), .ref (b 39), .ref (b 40), .int (m 41), .int (m 42), .int (m 43), .ref (b 44), .ref (b 45), .ref (b 46), .ref (b 47)])), (b 44, .inl (g 0, 6, .inl SH)), (b 45, .inl (g 0, 6, .inl (fun i => nI (MN i)))), (b 46, .inl (g 1, 360, .inr (.inl IT))), (b 47, .inl (g 1, 60, .inr (.inl CR)))] (fun (r : Int32) (CR1 : Nat → Int64) => r = zm_shr SH MN x x2 i9 j9 nn) (fun (CR1 : Nat → Int64) => [(b 100, .inr (8, [.ref (b 0), .ref (b 1), .ref (b 2), .ref (b 3), .int (m 4), .int (m 5), .int (m 6), .int (m 7), .ref (b 8), .int (m 9), .ref (b 10), .int (m 11), .int (m 12), .int (m 13), .int (m 14), .int (m 15), .int (m 16), .ref (b 17), .ref (b 18), .ref (b 19), .ref (b 20), .ref (b 21), .ref (b 22), .ref (b 23), .ref (b 24), .int (m 25), .int (m 26), .int (m 27), .int (m 28), .ref (b 29), .ref (b 30), .int (m 31), .int (m 32), .int (m 33), .int (m 34), .int (m 35), .ref (b 36), .ref (b 37), .int (m 38), .ref (b 39), .ref (b 40), .int (m 41), .int (m 42), .int (m 43), .ref (b 44), .ref (b 45), .ref (b 46), .ref (b 47)])), (b 44, .inl (g 0, 6, .inl SH)), (b 45, .inl (g 0, 6, .inl (fun i => nI (MN i)))), (b 46, .inl (g 1, 360, .inr (.inl (if zm_sho SH MN x x2 i9 j9 nn = true then va_cpy IT IT (60 * x.toInt.toNat + i9.toInt.toNat) (60 * x2.toInt.toNat + j9.toInt.toNat) nn.toInt.toNat else IT)))), (b 47, .inl (g 1, 60, .inr (.inl CR1)))]) := by
  refine zk_of (av := [.ref (b 100), .int x, .int i9, .int x2, .int j9, .int nn]) (W0 := [(b 100, .inr (8, [.ref (b 0), .ref (b 1), .ref (b 2), .ref (b 3), .int (m 4), .int (m 5), .int (m 6), .int (m 7), .ref (b 8), .int (m 9), .ref (b 10), .int (m 11), .int (m 12), .int (m 13), .int (m 14), .int (m 15), .int (m 16), .ref (b 17), .ref (b 18), .ref (b 19), .ref (b 20), .ref (b 21), .ref (b 22), .ref (b 23), .ref (b 24), .int (m 25), .int (m 26), .int (m 27), .int (m 28), .ref (b 29), .ref (b 30), .int (m 31), .int (m 32), .int (m 33), .int (m 34), .int (m 35), .ref (b 36), .ref (b 37), .int (m 38), .ref (b 39), .ref (b 40), .int (m 41), .int (m 42), .int (m 43), .ref (b 44), .ref (b 45), .ref (b 46), .ref (b 47)])), (b 44, .inl (g 0, 6, .inl SH)), (b 45, .inl (g 0, 6, .inl (fun i => nI (MN i)))), (b 46, .inl (g 1, 360, .inr (.inl IT))), (b 47, .inl (g 1, 60, .inr (.inl CR)))]) (y := yX8_shift) (wd := wmX8_shift) (Qc := fun A => va_Qi (fun (r : Int32) (CR1 : Nat → Int64) => r = zm_shr SH MN x x2 i9 j9 nn) (zk_B D g A (fun (CR1 : Nat → Int64) => [(b 100, .inr (8, [.ref (b 0), .ref (b 1), .ref (b 2), .ref (b 3), .int (m 4), .int (m 5), .int (m 6), .int (m 7), .ref (b 8), .int (m 9), .ref (b 10), .int (m 11), .int (m 12), .int (m 13), .int (m 14), .int (m 15), .int (m 16), .ref (b 17), .ref (b 18), .ref (b 19), .ref (b 20), .ref (b 21), .ref (b 22), .ref (b 23), .ref (b 24), .int (m 25), .int (m 26), .int (m 27), .int (m 28), .ref (b 29), .ref (b 30), .int (m 31), .int (m 32), .int (m 33), .int (m 34), .int (m 35), .ref (b 36), .ref (b 37), .int (m 38), .ref (b 39), .ref (b 40), .int (m 41), .int (m 42), .int (m 43), .ref (b 44), .ref (b 45), .ref (b 46), .ref (b 47)])), (b 44, .inl (g 0, 6, .inl SH)), (b 45, .inl (g 0, 6, .inl (fun i => nI (MN i)))), (b 46, .inl (g 1, 360, .inr (.inl (if zm_sho SH MN x x2 i9 j9 nn = true then va_cpy IT IT (60 * x.toInt.toNat + i9.toInt.toNat) (60 * x2.toInt.toNat + j9.toInt.toNat) nn.toInt.toNat else IT)))), (b 47, .inl (g 1, 60, .inr (.inl CR1)))])) A) (cc := cX8_shift) (maxL := 7) (ret := (some .int)) (own := RX8) (by decide) rfl rfl (Nat.le_of_ble_eq_true rfl) ?_
  intro pP eE sS mM args below meth cC aA ls qQ Z hR_ hlk hnm hK hT hA hQ G hl
  have hinX8 : ∀ w ∈ u_ws RX8 TX8 48, w ∈ wmX8_shift := wa8_in
  refine lv_iload_n Z.1 Z.2.1 dX8_shift_0 rfl (lv_at hl 1 rfl) ?_
  refine zk_ci (WF := fun (_ : Unit) => [(b 100, .inr (8, [.ref (b 0), .ref (b 1), .ref (b 2), .ref (b 3), .int (m 4), .int (m 5), .int (m 6), .int (m 7), .ref (b 8), .int (m 9), .ref (b 10), .int (m 11), .int (m 12), .int (m 13), .int (m 14), .int (m 15), .int (m 16), .ref (b 17), .ref (b 18), .ref (b 19), .ref (b 20), .ref (b 21), .ref (b 22), .ref (b 23), .ref (b 24), .int (m 25), .int (m 26), .int (m 27), .int (m 28), .ref (b 29), .ref (b 30), .int (m 31), .int (m 32), .int (m 33), .int (m 34), .int (m 35), .ref (b 36), .ref (b 37), .int (m 38), .ref (b 39), .ref (b 40), .int (m 41), .int (m 42), .int (m 43), .ref (b 44), .ref (b 45), .ref (b 46), .ref (b 47)])), (b 44, .inl (g 0, 6, .inl SH)), (b 45, .inl (g 0, 6, .inl (fun i => nI (MN i)))), (b 46, .inl (g 1, 360, .inr (.inl IT))), (b 47, .inl (g 1, 60, .inr (.inl CR)))]) (wr := [(b 100, .inr (8, [.ref (b 0), .ref (b 1), .ref (b 2), .ref (b 3), .int (m 4), .int (m 5), .int (m 6), .int (m 7), .ref (b 8), .int (m 9), .ref (b 10), .int (m 11), .int (m 12), .int (m 13), .int (m 14), .int (m 15), .int (m 16), .ref (b 17), .ref (b 18), .ref (b 19), .ref (b 20), .ref (b 21), .ref (b 22), .ref (b 23), .ref (b 24), .int (m 25), .int (m 26), .int (m 27), .int (m 28), .ref (b 29), .ref (b 30), .int (m 31), .int (m 32), .int (m 33), .int (m 34), .int (m 35), .ref (b 36), .ref (b 37), .int (m 38), .ref (b 39), .ref (b 40), .int (m 41), .int (m 42), .int (m 43), .ref (b 44), .ref (b 45), .ref (b 46), .ref (b 47)])), (b 44, .inl (g 0, 6, .inl SH)), (b 45, .inl (g 0, 6, .inl (fun i => nI (MN i)))), (b 46, .inl (g 1, 360, .inr (.inl IT))), (b 47, .inl (g 1, 60, .inr (.inl CR)))]) ⟨rfl, rfl⟩ (zk_rs (As := [.int x]) (rest := []) Z ((ct_X8_isShelf l D g τ x ) sS.heap.size) hK hT hA G [] rfl (by decide) gmX8_shift_X8_isShelf rfl dvX8_isShelf ⟨by decide, by decide⟩ rfl hl.1 rfl (Nat.le_of_ble_eq_true rfl) dX8_shift_1 ⟨Nat.zero_le _, Nat.zero_le _⟩) hA G [] [0, 1, 2, 3, 4] [0, 1, 2, 3, 4] rfl rfl (by decide) (by decide) (by decide) (fun _ => rfl) (fun r_1 _ H locs w_1 G => ?_)
  obtain rfl : r_1 = zk_b (zb_w 6 x) := w_1
  refine lv_if_eq (tgt := 14) Z.1 Z.2.1 dX8_shift_4 (by decide) (fun c4 => ?_) (fun c4 => ?_)
  · have c4 : (zb_w 6 x) = false := zk_b0.mp c4
    refine lv_iconst (v := (-1)) Z.1 Z.2.1 dX8_shift_14 (by decide +kernel) ?_
    have hk9 : ¬ zm_sho SH MN x x2 i9 j9 nn = true := by unfold zm_sho; rw [c4]; simp
    exact zk_reti Z hR_ hlk hK hQ G CR (by unfold zm_shr; rw [c4, Bool.false_and]; rfl) (by rw [if_neg hk9]) dX8_shift_15
  have c4 : (zb_w 6 x) = true := zk_b1.mp c4
  have c4_0 := c4
  obtain ⟨d, hd, rfl, hd2⟩ := zb_w_ex c4
  refine lv_iload_n Z.1 Z.2.1 dX8_shift_7 rfl (lv_at hl 3 rfl) ?_
  refine zk_ci (WF := fun (_ : Unit) => [(b 100, .inr (8, [.ref (b 0), .ref (b 1), .ref (b 2), .ref (b 3), .int (m 4), .int (m 5), .int (m 6), .int (m 7), .ref (b 8), .int (m 9), .ref (b 10), .int (m 11), .int (m 12), .int (m 13), .int (m 14), .int (m 15), .int (m 16), .ref (b 17), .ref (b 18), .ref (b 19), .ref (b 20), .ref (b 21), .ref (b 22), .ref (b 23), .ref (b 24), .int (m 25), .int (m 26), .int (m 27), .int (m 28), .ref (b 29), .ref (b 30), .int (m 31), .int (m 32), .int (m 33), .int (m 34), .int (m 35), .ref (b 36), .ref (b 37), .int (m 38), .ref (b 39), .ref (b 40), .int (m 41), .int (m 42), .int (m 43), .ref (b 44), .ref (b 45), .ref (b 46), .ref (b 47)])), (b 44, .inl (g 0, 6, .inl SH)), (b 45, .inl (g 0, 6, .inl (fun i => nI (MN i)))), (b 46, .inl (g 1, 360, .inr (.inl IT))), (b 47, .inl (g 1, 60, .inr (.inl CR)))]) (wr := [(b 100, .inr (8, [.ref (b 0), .ref (b 1), .ref (b 2), .ref (b 3), .int (m 4), .int (m 5), .int (m 6), .int (m 7), .ref (b 8), .int (m 9), .ref (b 10), .int (m 11), .int (m 12), .int (m 13), .int (m 14), .int (m 15), .int (m 16), .ref (b 17), .ref (b 18), .ref (b 19), .ref (b 20), .ref (b 21), .ref (b 22), .ref (b 23), .ref (b 24), .int (m 25), .int (m 26), .int (m 27), .int (m 28), .ref (b 29), .ref (b 30), .int (m 31), .int (m 32), .int (m 33), .int (m 34), .int (m 35), .ref (b 36), .ref (b 37), .int (m 38), .ref (b 39), .ref (b 40), .int (m 41), .int (m 42), .int (m 43), .ref (b 44), .ref (b 45), .ref (b 46), .ref (b 47)])), (b 44, .inl (g 0, 6, .inl SH)), (b 45, .inl (g 0, 6, .inl (fun i => nI (MN i)))), (b 46, .inl (g 1, 360, .inr (.inl IT))), (b 47, .inl (g 1, 60, .inr (.inl CR)))]) ⟨rfl, rfl⟩ (zk_rs (As := [.int x2]) (rest := []) Z ((ct_X8_isShelf l D g τ x2 ) H.size) hK hT hA G [] rfl (by decide) gmX8_shift_X8_isShelf rfl dvX8_isShelf ⟨by decide, by decide⟩ rfl hl.1 rfl (Nat.le_of_ble_eq_true rfl) dX8_shift_8 ⟨Nat.zero_le _, Nat.zero_le _⟩) hA G [] [0, 1, 2, 3, 4] [0, 1, 2, 3, 4] rfl rfl (by decide) (by decide) (by decide) (fun _ => rfl) (fun r_8 _ H locs w_8 G => ?_)
  obtain rfl : r_8 = zk_b (zb_w 6 x2) := w_8
  refine lv_if_ne (tgt := 16) Z.1 Z.2.1 dX8_shift_11 (by decide) (fun c11 => ?_) (fun c11 => ?_)
  · have c11 : (zb_w 6 x2) = true := zk_b1.mp c11
    have c11_0 := c11
    obtain ⟨d2, hd2_, rfl, hd22⟩ := zb_w_ex c11
    have hA1 : (zb_w 6 (nI d) && zb_w 6 (nI d2)) = true := by rw [c4_0, c11_0]; rfl
    have hm1 := hmn d
    have hm2 := hmn d2
    refine lv_aload_n Z.1 Z.2.1 dX8_shift_16 rfl (lv_at hl 0 rfl) ?_
    refine zk_get (C := RX8) (T := TX8) (N := 48) (ci := 8) Z hK G hinX8 0 rfl rfl 44 (by decide) (List.mem_cons_of_mem _ wa8_28) rfl (v := .ref (b 44)) rfl dX8_shift_17 ?_
    refine lv_iload_n Z.1 Z.2.1 dX8_shift_20 rfl (lv_at hl 1 rfl) ?_
    refine zk_iald Z hK G 1 rfl (k := d) (by omega) (by decide) (v := SH d) rfl dX8_shift_21 ?_
    refine lv_if_lt (tgt := 34) Z.1 Z.2.1 dX8_shift_22 (by decide) (fun c22 => ?_) (fun c22 => ?_)
    · have c22 : SH d < 0 := c22
      refine lv_bipush (v := (-11)) Z.1 Z.2.1 dX8_shift_34 (by decide +kernel) ?_
      have hq : SH d < 0 ∨ SH d2 < 0 := Or.inl c22
      have hk9 : ¬ zm_sho SH MN (nI d) (nI d2) i9 j9 nn = true := by unfold zm_sho; rw [zb_nat hd, zb_nat hd2_, decide_eq_false (not_not_intro hq)]; simp
      exact zk_reti Z hR_ hlk hK hQ G CR (by unfold zm_shr; rw [if_pos hA1, zb_nat hd, zb_nat hd2_, if_pos hq]) (by rw [if_neg hk9]) dX8_shift_36
    have c22 : ¬ SH d < 0 := c22
    refine lv_aload_n Z.1 Z.2.1 dX8_shift_25 rfl (lv_at hl 0 rfl) ?_
    refine zk_get (C := RX8) (T := TX8) (N := 48) (ci := 8) Z hK G hinX8 0 rfl rfl 44 (by decide) (List.mem_cons_of_mem _ wa8_28) rfl (v := .ref (b 44)) rfl dX8_shift_26 ?_
    refine lv_iload_n Z.1 Z.2.1 dX8_shift_29 rfl (lv_at hl 3 rfl) ?_
    refine zk_iald Z hK G 1 rfl (k := d2) (by omega) (by decide) (v := SH d2) rfl dX8_shift_30 ?_
    refine lv_if_ge (tgt := 37) Z.1 Z.2.1 dX8_shift_31 (by decide) (fun c31 => ?_) (fun c31 => ?_)
    · have c31 : 0 ≤ SH d2 := c31
      have hB1 : ¬ (SH d < 0 ∨ SH d2 < 0) := fun q9 => q9.elim c22 (Int32.not_lt.mpr c31)
      refine lv_aload_n Z.1 Z.2.1 dX8_shift_37 rfl (lv_at hl 0 rfl) ?_
      refine zk_get (C := RX8) (T := TX8) (N := 48) (ci := 8) Z hK G hinX8 0 rfl rfl 44 (by decide) (List.mem_cons_of_mem _ wa8_28) rfl (v := .ref (b 44)) rfl dX8_shift_38 ?_
      refine lv_iload_n Z.1 Z.2.1 dX8_shift_41 rfl (lv_at hl 1 rfl) ?_
      refine zk_iald Z hK G 1 rfl (k := d) (by omega) (by decide) (v := SH d) rfl dX8_shift_42 ?_
      refine lv_bipush (v := nI 50) Z.1 Z.2.1 dX8_shift_43 (by decide +kernel) ?_
      refine lv_icmp_lt (tgt := 63) Z.1 Z.2.1 dX8_shift_45 (by decide) (fun c45 => ?_) (fun c45 => ?_)
      · have c45 : SH d < 50 := c45
        refine lv_bipush (v := (-12)) Z.1 Z.2.1 dX8_shift_63 (by decide +kernel) ?_
        have hq : SH d < 50 ∨ ¬ SH d = SH d2 := Or.inl c45
        have hk9 : ¬ zm_sho SH MN (nI d) (nI d2) i9 j9 nn = true := by unfold zm_sho; rw [zb_nat hd, zb_nat hd2_, decide_eq_false (not_not_intro hq)]; simp
        exact zk_reti Z hR_ hlk hK hQ G CR (by unfold zm_shr; rw [if_pos hA1, zb_nat hd, zb_nat hd2_, if_neg hB1, if_pos hq]) (by rw [if_neg hk9]) dX8_shift_65
      have c45 : ¬ SH d < 50 := c45
      refine lv_aload_n Z.1 Z.2.1 dX8_shift_48 rfl (lv_at hl 0 rfl) ?_
      refine zk_get (C := RX8) (T := TX8) (N := 48) (ci := 8) Z hK G hinX8 0 rfl rfl 44 (by decide) (List.mem_cons_of_mem _ wa8_28) rfl (v := .ref (b 44)) rfl dX8_shift_49 ?_
      refine lv_iload_n Z.1 Z.2.1 dX8_shift_52 rfl (lv_at hl 1 rfl) ?_
      refine zk_iald Z hK G 1 rfl (k := d) (by omega) (by decide) (v := SH d) rfl dX8_shift_53 ?_
      refine lv_aload_n Z.1 Z.2.1 dX8_shift_54 rfl (lv_at hl 0 rfl) ?_
      refine zk_get (C := RX8) (T := TX8) (N := 48) (ci := 8) Z hK G hinX8 0 rfl rfl 44 (by decide) (List.mem_cons_of_mem _ wa8_28) rfl (v := .ref (b 44)) rfl dX8_shift_55 ?_
      refine lv_iload_n Z.1 Z.2.1 dX8_shift_58 rfl (lv_at hl 3 rfl) ?_
      refine zk_iald Z hK G 1 rfl (k := d2) (by omega) (by decide) (v := SH d2) rfl dX8_shift_59 ?_
      refine lv_icmp_eq (tgt := 66) Z.1 Z.2.1 dX8_shift_60 (by decide) (fun c60 => ?_) (fun c60 => ?_)
      · have c60 : SH d = SH d2 := c60
        have hB2 : ¬ (SH d < 50 ∨ ¬ SH d = SH d2) := fun q9 => q9.elim c45 (fun q8 => q8 c60)
        refine lv_iload Z.1 Z.2.1 dX8_shift_66 (lv_at hl 5 rfl) ?_
        refine lv_if_lt (tgt := 107) Z.1 Z.2.1 dX8_shift_68 (by decide) (fun c68 => ?_) (fun c68 => ?_)
        · have c68 : nn < 0 := c68
          refine lv_bipush (v := (-13)) Z.1 Z.2.1 dX8_shift_107 (by decide +kernel) ?_
          have hP : (zh_pl (MN d) i9 nn && zh_pl (MN d2) j9 nn) = false := by unfold zh_pl; rw [decide_eq_false (fun q9 : ¬ nn < 0 => q9 c68)]; simp
          have hk9 : ¬ zm_sho SH MN (nI d) (nI d2) i9 j9 nn = true := by unfold zm_sho; rw [zb_nat hd, zb_nat hd2_, hP]; simp
          exact zk_reti Z hR_ hlk hK hQ G CR (by unfold zm_shr; rw [if_pos hA1, zb_nat hd, zb_nat hd2_, if_neg hB1, if_neg hB2, hP]; rfl) (by rw [if_neg hk9]) dX8_shift_109
        have c68 : ¬ nn < 0 := c68
        obtain ⟨u, hu, rfl⟩ := nI_of c68
        refine lv_iload_n Z.1 Z.2.1 dX8_shift_71 rfl (lv_at hl 2 rfl) ?_
        refine lv_if_lt (tgt := 107) Z.1 Z.2.1 dX8_shift_72 (by decide) (fun c72 => ?_) (fun c72 => ?_)
        · have c72 : i9 < 0 := c72
          refine lv_bipush (v := (-13)) Z.1 Z.2.1 dX8_shift_107 (by decide +kernel) ?_
          have hP : (zh_pl (MN d) i9 (nI u) && zh_pl (MN d2) j9 (nI u)) = false := by unfold zh_pl; rw [decide_eq_false (fun q9 : ¬ i9 < 0 => q9 c72)]; simp
          have hk9 : ¬ zm_sho SH MN (nI d) (nI d2) i9 j9 (nI u) = true := by unfold zm_sho; rw [zb_nat hd, zb_nat hd2_, hP]; simp
          exact zk_reti Z hR_ hlk hK hQ G CR (by unfold zm_shr; rw [if_pos hA1, zb_nat hd, zb_nat hd2_, if_neg hB1, if_neg hB2, hP]; rfl) (by rw [if_neg hk9]) dX8_shift_109
        have c72 : ¬ i9 < 0 := c72
        obtain ⟨s, hs, rfl⟩ := nI_of c72
        refine lv_iload Z.1 Z.2.1 dX8_shift_75 (lv_at hl 4 rfl) ?_
        refine lv_if_lt (tgt := 107) Z.1 Z.2.1 dX8_shift_77 (by decide) (fun c77 => ?_) (fun c77 => ?_)
        · have c77 : j9 < 0 := c77
          refine lv_bipush (v := (-13)) Z.1 Z.2.1 dX8_shift_107 (by decide +kernel) ?_
          have hP : (zh_pl (MN d) (nI s) (nI u) && zh_pl (MN d2) j9 (nI u)) = false := by rw [Bool.and_eq_false_iff]; right; unfold zh_pl; rw [decide_eq_false (fun q9 : ¬ j9 < 0 => q9 c77)]; simp
          have hk9 : ¬ zm_sho SH MN (nI d) (nI d2) (nI s) j9 (nI u) = true := by unfold zm_sho; rw [zb_nat hd, zb_nat hd2_, hP]; simp
          exact zk_reti Z hR_ hlk hK hQ G CR (by unfold zm_shr; rw [if_pos hA1, zb_nat hd, zb_nat hd2_, if_neg hB1, if_neg hB2, hP]; rfl) (by rw [if_neg hk9]) dX8_shift_109
        have c77 : ¬ j9 < 0 := c77
        obtain ⟨t, ht, rfl⟩ := nI_of c77
        refine lv_iload_n Z.1 Z.2.1 dX8_shift_80 rfl (lv_at hl 2 rfl) ?_
        refine lv_aload_n Z.1 Z.2.1 dX8_shift_81 rfl (lv_at hl 0 rfl) ?_
        refine zk_get (C := RX8) (T := TX8) (N := 48) (ci := 8) Z hK G hinX8 0 rfl rfl 45 (by decide) (List.mem_cons_of_mem _ wa8_29) rfl (v := .ref (b 45)) rfl dX8_shift_82 ?_
        refine lv_iload_n Z.1 Z.2.1 dX8_shift_85 rfl (lv_at hl 1 rfl) ?_
        refine zk_iald Z hK G 2 rfl (k := d) (by omega) (by decide) (v := nI (MN d)) rfl dX8_shift_86 ?_
        refine lv_iload Z.1 Z.2.1 dX8_shift_87 (lv_at hl 5 rfl) ?_
        refine zk_isub Z dX8_shift_89 (z := nI (MN d) - nI u) rfl ?_
        refine lv_icmp_gt (tgt := 107) Z.1 Z.2.1 dX8_shift_90 (by decide) (fun c90 => ?_) (fun c90 => ?_)
        · have c90 : ¬ (s ≤ MN d ∧ u ≤ MN d - s) := fun q9 => (Int32.not_le.mpr c90) ((zm_le_sub hm1 hs hu).mpr q9)
          refine lv_bipush (v := (-13)) Z.1 Z.2.1 dX8_shift_107 (by decide +kernel) ?_
          have hP : (zh_pl (MN d) (nI s) (nI u) && zh_pl (MN d2) (nI t) (nI u)) = false := by rw [zh_pl_n hm1 hs hu, decide_eq_false c90]; rfl
          have hk9 : ¬ zm_sho SH MN (nI d) (nI d2) (nI s) (nI t) (nI u) = true := by unfold zm_sho; rw [zb_nat hd, zb_nat hd2_, hP]; simp
          exact zk_reti Z hR_ hlk hK hQ G CR (by unfold zm_shr; rw [if_pos hA1, zb_nat hd, zb_nat hd2_, if_neg hB1, if_neg hB2, hP]; rfl) (by rw [if_neg hk9]) dX8_shift_109
        have c90 : s ≤ MN d ∧ u ≤ MN d - s := (zm_le_sub hm1 hs hu).mp (Int32.not_lt.mp c90)
        refine lv_iload Z.1 Z.2.1 dX8_shift_93 (lv_at hl 4 rfl) ?_
        refine lv_aload_n Z.1 Z.2.1 dX8_shift_95 rfl (lv_at hl 0 rfl) ?_
        refine zk_get (C := RX8) (T := TX8) (N := 48) (ci := 8) Z hK G hinX8 0 rfl rfl 45 (by decide) (List.mem_cons_of_mem _ wa8_29) rfl (v := .ref (b 45)) rfl dX8_shift_96 ?_
        refine lv_iload_n Z.1 Z.2.1 dX8_shift_99 rfl (lv_at hl 3 rfl) ?_
        refine zk_iald Z hK G 2 rfl (k := d2) (by omega) (by decide) (v := nI (MN d2)) rfl dX8_shift_100 ?_
        refine lv_iload Z.1 Z.2.1 dX8_shift_101 (lv_at hl 5 rfl) ?_
        refine zk_isub Z dX8_shift_103 (z := nI (MN d2) - nI u) rfl ?_
        refine lv_icmp_le (tgt := 110) Z.1 Z.2.1 dX8_shift_104 (by decide) (fun c104 => ?_) (fun c104 => ?_)
        · have c104 : t ≤ MN d2 ∧ u ≤ MN d2 - t := (zm_le_sub hm2 ht hu).mp c104
          have G : zk_G D aA [(b 100, .inr (8, [.ref (b 0), .ref (b 1), .ref (b 2), .ref (b 3), .int (m 4), .int (m 5), .int (m 6), .int (m 7), .ref (b 8), .int (m 9), .ref (b 10), .int (m 11), .int (m 12), .int (m 13), .int (m 14), .int (m 15), .int (m 16), .ref (b 17), .ref (b 18), .ref (b 19), .ref (b 20), .ref (b 21), .ref (b 22), .ref (b 23), .ref (b 24), .int (m 25), .int (m 26), .int (m 27), .int (m 28), .ref (b 29), .ref (b 30), .int (m 31), .int (m 32), .int (m 33), .int (m 34), .int (m 35), .ref (b 36), .ref (b 37), .int (m 38), .ref (b 39), .ref (b 40), .int (m 41), .int (m 42), .int (m 43), .ref (b 44), .ref (b 45), .ref (b 46), .ref (b 47)])), (b 44, .inl (g 0, 6, .inl SH)), (b 45, .inl (g 0, 6, .inl (fun i => nI (MN i)))), (b 46, .inl (g 1, 360, .inr (.inl IT))), (b 47, .inl (g 1, 60, .inr (.inl (zs_fill (fun q => IT (60 * d + s + q)) CR 0))))] sS H locs := (by rw [zs_fill_0]; exact G)
          refine lv_iconst (v := nI 0) Z.1 Z.2.1 dX8_shift_110 (by decide +kernel) ?_
          refine lv_istore (lv' := [(6, .int (nI 0)), (0, .ref (b 100)), (1, .int (nI d)), (2, .int (nI s)), (3, .int (nI d2)), (4, .int (nI t)), (5, .int (nI u))]) Z.1 Z.2.1 dX8_shift_111 hl (by decide) rfl (fun ls hl => ?_)
          have L113 : ∀ (nN : Nat) (k : Nat), u - k < nN → (k ≤ u) → ∀ (H : Heap) (locs : List Loc) (ls : Array Slot), zk_G D aA [(b 100, .inr (8, [.ref (b 0), .ref (b 1), .ref (b 2), .ref (b 3), .int (m 4), .int (m 5), .int (m 6), .int (m 7), .ref (b 8), .int (m 9), .ref (b 10), .int (m 11), .int (m 12), .int (m 13), .int (m 14), .int (m 15), .int (m 16), .ref (b 17), .ref (b 18), .ref (b 19), .ref (b 20), .ref (b 21), .ref (b 22), .ref (b 23), .ref (b 24), .int (m 25), .int (m 26), .int (m 27), .int (m 28), .ref (b 29), .ref (b 30), .int (m 31), .int (m 32), .int (m 33), .int (m 34), .int (m 35), .ref (b 36), .ref (b 37), .int (m 38), .ref (b 39), .ref (b 40), .int (m 41), .int (m 42), .int (m 43), .ref (b 44), .ref (b 45), .ref (b 46), .ref (b 47)])), (b 44, .inl (g 0, 6, .inl SH)), (b 45, .inl (g 0, 6, .inl (fun i => nI (MN i)))), (b 46, .inl (g 1, 360, .inr (.inl IT))), (b 47, .inl (g 1, 60, .inr (.inl (zs_fill (fun q => IT (60 * d + s + q)) CR k))))] sS H locs → lv_has ls 7 [(0, .ref (b 100)), (1, .int (nI d)), (2, .int (nI s)), (3, .int (nI d2)), (4, .int (nI t)), (5, .int (nI u)), (6, .int (nI k))] → W pP l eE rm_X8_shift sS mM args below meth cC H locs 0 0 qQ (F0 mM 113 ls []) := by
            intro nN
            induction nN with
            | zero => intros; omega
            | succ nN ih113 =>
              intro k hμ h1 H locs ls G hl
              refine lv_iload Z.1 Z.2.1 dX8_shift_113 (lv_at hl 6 rfl) ?_
              refine lv_iload Z.1 Z.2.1 dX8_shift_115 (lv_at hl 5 rfl) ?_
              refine lv_icmp_ge (tgt := 147) Z.1 Z.2.1 dX8_shift_117 (by decide) (fun c117 => ?_) (fun c117 => ?_)
              · have c117 : u ≤ k := zk_le (by omega) (by omega) c117
                have eku : k = u := by omega
                have G : zk_G D aA [(b 100, .inr (8, [.ref (b 0), .ref (b 1), .ref (b 2), .ref (b 3), .int (m 4), .int (m 5), .int (m 6), .int (m 7), .ref (b 8), .int (m 9), .ref (b 10), .int (m 11), .int (m 12), .int (m 13), .int (m 14), .int (m 15), .int (m 16), .ref (b 17), .ref (b 18), .ref (b 19), .ref (b 20), .ref (b 21), .ref (b 22), .ref (b 23), .ref (b 24), .int (m 25), .int (m 26), .int (m 27), .int (m 28), .ref (b 29), .ref (b 30), .int (m 31), .int (m 32), .int (m 33), .int (m 34), .int (m 35), .ref (b 36), .ref (b 37), .int (m 38), .ref (b 39), .ref (b 40), .int (m 41), .int (m 42), .int (m 43), .ref (b 44), .ref (b 45), .ref (b 46), .ref (b 47)])), (b 44, .inl (g 0, 6, .inl SH)), (b 45, .inl (g 0, 6, .inl (fun i => nI (MN i)))), (b 46, .inl (g 1, 360, .inr (.inl (va_cpy IT IT (60 * d + s) (60 * d2 + t) 0)))), (b 47, .inl (g 1, 60, .inr (.inl (zs_fill (fun q => IT (60 * d + s + q)) CR u))))] sS H locs := (by rw [zm_cpy_0, ← eku]; exact G)
                refine lv_iconst (v := nI 0) Z.1 Z.2.1 dX8_shift_147 (by decide +kernel) ?_
                refine lv_istore (lv' := [(6, .int (nI 0)), (0, .ref (b 100)), (1, .int (nI d)), (2, .int (nI s)), (3, .int (nI d2)), (4, .int (nI t)), (5, .int (nI u))]) Z.1 Z.2.1 dX8_shift_148 hl (by decide) rfl (fun ls hl => ?_)
                have L150 : ∀ (nN : Nat) (k : Nat), u - k < nN → (k ≤ u) → ∀ (H : Heap) (locs : List Loc) (ls : Array Slot), zk_G D aA [(b 100, .inr (8, [.ref (b 0), .ref (b 1), .ref (b 2), .ref (b 3), .int (m 4), .int (m 5), .int (m 6), .int (m 7), .ref (b 8), .int (m 9), .ref (b 10), .int (m 11), .int (m 12), .int (m 13), .int (m 14), .int (m 15), .int (m 16), .ref (b 17), .ref (b 18), .ref (b 19), .ref (b 20), .ref (b 21), .ref (b 22), .ref (b 23), .ref (b 24), .int (m 25), .int (m 26), .int (m 27), .int (m 28), .ref (b 29), .ref (b 30), .int (m 31), .int (m 32), .int (m 33), .int (m 34), .int (m 35), .ref (b 36), .ref (b 37), .int (m 38), .ref (b 39), .ref (b 40), .int (m 41), .int (m 42), .int (m 43), .ref (b 44), .ref (b 45), .ref (b 46), .ref (b 47)])), (b 44, .inl (g 0, 6, .inl SH)), (b 45, .inl (g 0, 6, .inl (fun i => nI (MN i)))), (b 46, .inl (g 1, 360, .inr (.inl (va_cpy IT IT (60 * d + s) (60 * d2 + t) k)))), (b 47, .inl (g 1, 60, .inr (.inl (zs_fill (fun q => IT (60 * d + s + q)) CR u))))] sS H locs → lv_has ls 7 [(0, .ref (b 100)), (1, .int (nI d)), (2, .int (nI s)), (3, .int (nI d2)), (4, .int (nI t)), (5, .int (nI u)), (6, .int (nI k))] → W pP l eE rm_X8_shift sS mM args below meth cC H locs 0 0 qQ (F0 mM 150 ls []) := by
                  intro nN
                  induction nN with
                  | zero => intros; omega
                  | succ nN ih150 =>
                    intro k hμ h1 H locs ls G hl
                    refine lv_iload Z.1 Z.2.1 dX8_shift_150 (lv_at hl 6 rfl) ?_
                    refine lv_iload Z.1 Z.2.1 dX8_shift_152 (lv_at hl 5 rfl) ?_
                    refine lv_icmp_ge (tgt := 185) Z.1 Z.2.1 dX8_shift_154 (by decide) (fun c154 => ?_) (fun c154 => ?_)
                    · have c154 : u ≤ k := zk_le (by omega) (by omega) c154
                      refine lv_iload Z.1 Z.2.1 dX8_shift_185 (lv_at hl 5 rfl) ?_
                      have hP : (zh_pl (MN d) (nI s) (nI u) && zh_pl (MN d2) (nI t) (nI u)) = true := by rw [zh_pl_n hm1 hs hu, zh_pl_n hm2 ht hu, decide_eq_true c90, decide_eq_true c104]; rfl
                      have hk9 : zm_sho SH MN (nI d) (nI d2) (nI s) (nI t) (nI u) = true := by unfold zm_sho; rw [hA1, zb_nat hd, zb_nat hd2_, decide_eq_true hB1, decide_eq_true hB2, hP]; rfl
                      exact zk_reti Z hR_ hlk hK hQ G (zs_fill (fun q => IT (60 * d + s + q)) CR u) (by unfold zm_shr; rw [if_pos hA1, zb_nat hd, zb_nat hd2_, if_neg hB1, if_neg hB2, if_pos hP]) (by rw [if_pos hk9, zb_nat hd, zb_nat hd2_, zb_nat hs, zb_nat ht, zb_nat hu, show k = u by omega]) dX8_shift_187
                    have c154 : k < u := zk_nle (by omega) (by omega) c154
                    refine lv_aload_n Z.1 Z.2.1 dX8_shift_157 rfl (lv_at hl 0 rfl) ?_
                    refine zk_get (C := RX8) (T := TX8) (N := 48) (ci := 8) Z hK G hinX8 0 rfl rfl 46 (by decide) (List.mem_cons_of_mem _ wa8_31) rfl (v := .ref (b 46)) rfl dX8_shift_158 ?_
                    refine lv_bipush (v := nI 60) Z.1 Z.2.1 dX8_shift_161 (by decide +kernel) ?_
                    refine lv_iload_n Z.1 Z.2.1 dX8_shift_163 rfl (lv_at hl 3 rfl) ?_
                    refine zk_imul Z dX8_shift_164 (z := nI (60 * d2)) (pk_mul _ _) ?_
                    refine lv_iload Z.1 Z.2.1 dX8_shift_165 (lv_at hl 4 rfl) ?_
                    refine zk_iadd Z dX8_shift_167 (z := nI (60 * d2 + t)) (nI_add _ _) ?_
                    refine lv_iload Z.1 Z.2.1 dX8_shift_168 (lv_at hl 6 rfl) ?_
                    refine zk_iadd Z dX8_shift_170 (z := nI (60 * d2 + t + k)) (nI_add _ _) ?_
                    refine lv_aload_n Z.1 Z.2.1 dX8_shift_171 rfl (lv_at hl 0 rfl) ?_
                    refine zk_get (C := RX8) (T := TX8) (N := 48) (ci := 8) Z hK G hinX8 0 rfl rfl 47 (by decide) (List.mem_cons_of_mem _ wa8_32) rfl (v := .ref (b 47)) rfl dX8_shift_172 ?_
                    refine lv_iload Z.1 Z.2.1 dX8_shift_175 (lv_at hl 6 rfl) ?_
                    refine zk_lald Z hK G 4 rfl (k := k) (by omega) (by decide) (v := IT (60 * d + s + k)) (if_pos (by omega)) dX8_shift_177 ?_
                    refine zk_last Z hK G 3 rfl (k := 60 * d2 + t + k) (by omega) (by decide) (zm_cpy_s _ _ _ _) (ws' := [(b 100, .inr (8, [.ref (b 0), .ref (b 1), .ref (b 2), .ref (b 3), .int (m 4), .int (m 5), .int (m 6), .int (m 7), .ref (b 8), .int (m 9), .ref (b 10), .int (m 11), .int (m 12), .int (m 13), .int (m 14), .int (m 15), .int (m 16), .ref (b 17), .ref (b 18), .ref (b 19), .ref (b 20), .ref (b 21), .ref (b 22), .ref (b 23), .ref (b 24), .int (m 25), .int (m 26), .int (m 27), .int (m 28), .ref (b 29), .ref (b 30), .int (m 31), .int (m 32), .int (m 33), .int (m 34), .int (m 35), .ref (b 36), .ref (b 37), .int (m 38), .ref (b 39), .ref (b 40), .int (m 41), .int (m 42), .int (m 43), .ref (b 44), .ref (b 45), .ref (b 46), .ref (b 47)])), (b 44, .inl (g 0, 6, .inl SH)), (b 45, .inl (g 0, 6, .inl (fun i => nI (MN i)))), (b 46, .inl (g 1, 360, .inr (.inl (va_cpy IT IT (60 * d + s) (60 * d2 + t) (k + 1))))), (b 47, .inl (g 1, 60, .inr (.inl (zs_fill (fun q => IT (60 * d + s + q)) CR u))))]) rfl dX8_shift_178 (fun H locs G => ?_)
                    refine lv_iinc (v := nI (k + 1)) (lv' := [(6, .int (nI (k + 1))), (0, .ref (b 100)), (1, .int (nI d)), (2, .int (nI s)), (3, .int (nI d2)), (4, .int (nI t)), (5, .int (nI u))]) Z.1 Z.2.1 dX8_shift_179 hl (k := 6) rfl (zk_inc k 1) (by decide) rfl (fun ls hl => ?_)
                    refine lv_goto (tgt := 150) Z.1 Z.2.1 dX8_shift_182 (by decide) ?_
                    exact ih150 (k + 1) (by omega) (by omega) _ _ _ G (lv_sub hl [1, 2, 3, 4, 5, 6, 0] rfl)
                exact L150 _ 0 (Nat.lt_succ_self _) (by omega) _ _ _ G (lv_sub hl [1, 2, 3, 4, 5, 6, 0] rfl)
              have c117 : k < u := zk_nle (by omega) (by omega) c117
              refine lv_aload_n Z.1 Z.2.1 dX8_shift_120 rfl (lv_at hl 0 rfl) ?_
              refine zk_get (C := RX8) (T := TX8) (N := 48) (ci := 8) Z hK G hinX8 0 rfl rfl 47 (by decide) (List.mem_cons_of_mem _ wa8_32) rfl (v := .ref (b 47)) rfl dX8_shift_121 ?_
              refine lv_iload Z.1 Z.2.1 dX8_shift_124 (lv_at hl 6 rfl) ?_
              refine lv_aload_n Z.1 Z.2.1 dX8_shift_126 rfl (lv_at hl 0 rfl) ?_
              refine zk_get (C := RX8) (T := TX8) (N := 48) (ci := 8) Z hK G hinX8 0 rfl rfl 46 (by decide) (List.mem_cons_of_mem _ wa8_31) rfl (v := .ref (b 46)) rfl dX8_shift_127 ?_
              refine lv_bipush (v := nI 60) Z.1 Z.2.1 dX8_shift_130 (by decide +kernel) ?_
              refine lv_iload_n Z.1 Z.2.1 dX8_shift_132 rfl (lv_at hl 1 rfl) ?_
              refine zk_imul Z dX8_shift_133 (z := nI (60 * d)) (pk_mul _ _) ?_
              refine lv_iload_n Z.1 Z.2.1 dX8_shift_134 rfl (lv_at hl 2 rfl) ?_
              refine zk_iadd Z dX8_shift_135 (z := nI (60 * d + s)) (nI_add _ _) ?_
              refine lv_iload Z.1 Z.2.1 dX8_shift_136 (lv_at hl 6 rfl) ?_
              refine zk_iadd Z dX8_shift_138 (z := nI (60 * d + s + k)) (nI_add _ _) ?_
              refine zk_lald Z hK G 3 rfl (k := 60 * d + s + k) (by omega) (by decide) (v := IT (60 * d + s + k)) rfl dX8_shift_139 ?_
              refine zk_last Z hK G 4 rfl (k := k) (by omega) (by decide) (zs_fill_L (fun q => IT (60 * d + s + q)) CR k) (ws' := [(b 100, .inr (8, [.ref (b 0), .ref (b 1), .ref (b 2), .ref (b 3), .int (m 4), .int (m 5), .int (m 6), .int (m 7), .ref (b 8), .int (m 9), .ref (b 10), .int (m 11), .int (m 12), .int (m 13), .int (m 14), .int (m 15), .int (m 16), .ref (b 17), .ref (b 18), .ref (b 19), .ref (b 20), .ref (b 21), .ref (b 22), .ref (b 23), .ref (b 24), .int (m 25), .int (m 26), .int (m 27), .int (m 28), .ref (b 29), .ref (b 30), .int (m 31), .int (m 32), .int (m 33), .int (m 34), .int (m 35), .ref (b 36), .ref (b 37), .int (m 38), .ref (b 39), .ref (b 40), .int (m 41), .int (m 42), .int (m 43), .ref (b 44), .ref (b 45), .ref (b 46), .ref (b 47)])), (b 44, .inl (g 0, 6, .inl SH)), (b 45, .inl (g 0, 6, .inl (fun i => nI (MN i)))), (b 46, .inl (g 1, 360, .inr (.inl IT))), (b 47, .inl (g 1, 60, .inr (.inl (zs_fill (fun q => IT (60 * d + s + q)) CR (k + 1)))))]) rfl dX8_shift_140 (fun H locs G => ?_)
              refine lv_iinc (v := nI (k + 1)) (lv' := [(6, .int (nI (k + 1))), (0, .ref (b 100)), (1, .int (nI d)), (2, .int (nI s)), (3, .int (nI d2)), (4, .int (nI t)), (5, .int (nI u))]) Z.1 Z.2.1 dX8_shift_141 hl (k := 6) rfl (zk_inc k 1) (by decide) rfl (fun ls hl => ?_)
              refine lv_goto (tgt := 113) Z.1 Z.2.1 dX8_shift_144 (by decide) ?_
              exact ih113 (k + 1) (by omega) (by omega) _ _ _ G (lv_sub hl [1, 2, 3, 4, 5, 6, 0] rfl)
          exact L113 _ 0 (Nat.lt_succ_self _) (by omega) _ _ _ G (lv_sub hl [1, 2, 3, 4, 5, 6, 0] rfl)
        have c104 : ¬ (t ≤ MN d2 ∧ u ≤ MN d2 - t) := fun q9 => c104 ((zm_le_sub hm2 ht hu).mpr q9)
        refine lv_bipush (v := (-13)) Z.1 Z.2.1 dX8_shift_107 (by decide +kernel) ?_
        have hP : (zh_pl (MN d) (nI s) (nI u) && zh_pl (MN d2) (nI t) (nI u)) = false := by rw [zh_pl_n hm2 ht hu, decide_eq_false c104, Bool.and_false]
        have hk9 : ¬ zm_sho SH MN (nI d) (nI d2) (nI s) (nI t) (nI u) = true := by unfold zm_sho; rw [zb_nat hd, zb_nat hd2_, hP]; simp
        exact zk_reti Z hR_ hlk hK hQ G CR (by unfold zm_shr; rw [if_pos hA1, zb_nat hd, zb_nat hd2_, if_neg hB1, if_neg hB2, hP]; rfl) (by rw [if_neg hk9]) dX8_shift_109
      have c60 : ¬ SH d = SH d2 := c60
      refine lv_bipush (v := (-12)) Z.1 Z.2.1 dX8_shift_63 (by decide +kernel) ?_
      have hq : SH d < 50 ∨ ¬ SH d = SH d2 := Or.inr c60
      have hk9 : ¬ zm_sho SH MN (nI d) (nI d2) i9 j9 nn = true := by unfold zm_sho; rw [zb_nat hd, zb_nat hd2_, decide_eq_false (not_not_intro hq)]; simp
      exact zk_reti Z hR_ hlk hK hQ G CR (by unfold zm_shr; rw [if_pos hA1, zb_nat hd, zb_nat hd2_, if_neg hB1, if_pos hq]) (by rw [if_neg hk9]) dX8_shift_65
    have c31 : ¬ 0 ≤ SH d2 := c31
    have c31n : SH d2 < 0 := Int32.not_le.mp c31
    refine lv_bipush (v := (-11)) Z.1 Z.2.1 dX8_shift_34 (by decide +kernel) ?_
    have hq : SH d < 0 ∨ SH d2 < 0 := Or.inr c31n
    have hk9 : ¬ zm_sho SH MN (nI d) (nI d2) i9 j9 nn = true := by unfold zm_sho; rw [zb_nat hd, zb_nat hd2_, decide_eq_false (not_not_intro hq)]; simp
    exact zk_reti Z hR_ hlk hK hQ G CR (by unfold zm_shr; rw [if_pos hA1, zb_nat hd, zb_nat hd2_, if_pos hq]) (by rw [if_neg hk9]) dX8_shift_36
  have c11 : (zb_w 6 x2) = false := zk_b0.mp c11
  refine lv_iconst (v := (-1)) Z.1 Z.2.1 dX8_shift_14 (by decide +kernel) ?_
  have hk9 : ¬ zm_sho SH MN (nI d) x2 i9 j9 nn = true := by unfold zm_sho; rw [c11]; simp
  exact zk_reti Z hR_ hlk hK hQ G CR (by unfold zm_shr; rw [c11, Bool.and_false]; rfl) (by rw [if_neg hk9]) dX8_shift_15
