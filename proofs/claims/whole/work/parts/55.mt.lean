/-! The reference: how safe a way is. -/
theorem zm_pow_n (c : Nat) : ∀ h, zm_pow (lN c) h = lN (c ^ h)
  | 0 => rfl
  | h + 1 => by simp only [zm_pow]; rw [zm_pow_n c h, lN_mul, Nat.pow_succ]
theorem zm_in_nn {v a c : Nat} (hv : v < 2 ^ 31) (ha : a < 2 ^ 31) (hc : c < 2 ^ 31) : zm_in (lN v) (lN a) (lN c) = (decide (a ≤ v) && decide (v ≤ c)) := by
  rw [← nI_l hv, zm_in_c _ _ _ ha hc, nI_toInt hv]
  congr 1
  · exact decide_eq_decide.mpr (by omega)
  · exact decide_eq_decide.mpr (by omega)
theorem zm_okp_n {v : Nat} (hv : v < 2 ^ 31) : zu_okp (nI v) = (zm_in (lN (v / 10)) (lN 1) (lN 2) && decide (v % 10 ≤ 1)) := by
  rw [zm_in_nn (by omega) (by decide) (by decide)]
  unfold zu_okp
  rw [zb_nat hv]
  have e1 : (¬ nI v < 10) ↔ 10 ≤ v := by
    rw [show (10 : Int32) = nI 10 from rfl, nI_ltI hv (by decide)]; omega
  have e2 : (¬ (21 : Int32) < nI v) ↔ v ≤ 21 := by
    rw [show (21 : Int32) = nI 21 from rfl, nI_ltI (by decide) hv]; omega
  rw [Bool.eq_iff_iff]
  simp only [Bool.and_eq_true, decide_eq_true_eq]
  rw [e1, e2]
  omega
theorem zm_okp_neg {x : Int32} (h : x < 0) : zu_okp x = false := by
  unfold zu_okp
  have e : x < 10 := by
    rw [zb_lt] at h ⊢
    have h0 : (0 : Int32).toInt = 0 := by decide
    have h1 : (10 : Int32).toInt = 10 := by decide
    omega
  rw [decide_eq_false (not_not_intro e)]; rfl
theorem zm_wdok {tl : Bool} {ev : (Nat → Int32) → Int32} {P S R : Nat → Nat} {hide n : Nat} (hn : n ≤ 7) : zy_ok n (zs_meet tl ev P S R hide) (zu_wd tl ev P S R hide n) := ⟨hn, fun a b t => zm_meet_c _ _ _ _ _ _ a b t, fun _ _ hk => zy_wdb hn hk⟩
def zm_safe (n storm : Nat) (s : Nat → Nat → Nat → Bool) (pq t part : Int32) : Int64 :=
  if (zb_pair n pq && zb_s t && zu_okp part) = true then
    (if zm_bk 1 s n (zu_q pq) t.toInt.toNat 600 (zu_p pq) = 1000000 then -9223372036854775808
     else lN (zu_odds storm (zm_fw s n (zu_q pq) t.toInt.toNat (zm_bk 1 s n (zu_q pq) t.toInt.toNat 600 (zu_p pq)) (zm_bk 1 s n (zu_q pq) t.toInt.toNat 600 (zu_p pq)) (zu_p pq)) part.toInt.toNat)) else -9223372036854775808

abbrev rm_X8_safe : Room := { frames := 52, cells := 0, slots := 0, locals := 2802 }
theorem dvX8_safe : zk_dv yX8_safe RX8 3 := by decide +kernel
theorem gmX8_safe_X8_isPq : GoodIn wmX8_safe (wsV RX8 220 RX8 yX8_isPq wmX8_isPq) := goodIn_app (wa8_w (List.forall_mem_cons.mpr ⟨wa8_159, List.forall_mem_cons.mpr ⟨wa8_160, List.forall_mem_cons.mpr ⟨wa8_161, List.forall_mem_cons.mpr ⟨wa8_43, fun _ h => absurd h List.not_mem_nil⟩⟩⟩⟩)) (wa8_sub wa8_44)
theorem gmX8_safe_X8_isStep : GoodIn wmX8_safe (va_wsS RX8 153 yX8_isStep wmX8_isStep) := goodIn_app (wa8_w (List.forall_mem_cons.mpr ⟨wa8_94, List.forall_mem_cons.mpr ⟨wa8_95, List.forall_mem_cons.mpr ⟨wa8_43, fun _ h => absurd h List.not_mem_nil⟩⟩⟩)) (wa8_sub wa8_48)
theorem gmX8_safe_X8_within : GoodIn wmX8_safe (va_wsS RX8 97 yX8_within wmX8_within) := goodIn_app (wa8_w (List.forall_mem_cons.mpr ⟨wa8_41, List.forall_mem_cons.mpr ⟨wa8_42, List.forall_mem_cons.mpr ⟨wa8_43, fun _ h => absurd h List.not_mem_nil⟩⟩⟩)) (wa8_sub wa8_0)
theorem gmX8_safe_X8_looksFrom : GoodIn wmX8_safe (wsV RX8 241 RX8 yX8_looksFrom wmX8_looksFrom) := goodIn_app (wa8_w (List.forall_mem_cons.mpr ⟨wa8_189, List.forall_mem_cons.mpr ⟨wa8_190, List.forall_mem_cons.mpr ⟨wa8_191, List.forall_mem_cons.mpr ⟨wa8_43, fun _ h => absurd h List.not_mem_nil⟩⟩⟩⟩)) (wa8_sub wa8_186)
theorem gmX8_safe_X8_wayTo : GoodIn wmX8_safe (wsV RX8 249 RX8 yX8_wayTo wmX8_wayTo) := goodIn_app (wa8_w (List.forall_mem_cons.mpr ⟨wa8_199, List.forall_mem_cons.mpr ⟨wa8_200, List.forall_mem_cons.mpr ⟨wa8_201, List.forall_mem_cons.mpr ⟨wa8_43, fun _ h => absurd h List.not_mem_nil⟩⟩⟩⟩)) (wa8_sub wa8_193)
theorem gmX8_safe_X8_power : GoodIn wmX8_safe (va_wsS RX8 265 yX8_power wmX8_power) := goodIn_app (wa8_w (List.forall_mem_cons.mpr ⟨wa8_213, List.forall_mem_cons.mpr ⟨wa8_214, List.forall_mem_cons.mpr ⟨wa8_43, fun _ h => absurd h List.not_mem_nil⟩⟩⟩)) (wa8_sub wa8_209)
set_option maxRecDepth 100000 in
set_option maxHeartbeats 400000 in
theorem ct_X8_safe (l : Launch) (D : va_G) (g : Nat → ClassId) (τ : Nat → Nat) (b : Nat → Nat) (m : Nat → Int32) (sb : Int32) (sa : Int32) (se : Int32) (sf : Int32) (sq : Int32) (tn : Nat) (tl : Bool) (ev : (Nat → Int32) → Int32) (n : Nat) (M : Nat → Nat) (TP : Nat → Nat) (TX : Nat → Nat) (NM : Nat → Int32) (SN : Nat → Int32) (PR : Nat → Nat) (ST : Nat → Nat) (HA : Nat → Nat) (FW : Nat → Nat) (pq : Int32) (t : Int32) (part : Int32) (hev : zm_evh tl tn TX ev) (hW : zs_W n M (zm_S M)) (hh : M 21 ≤ 180) (hn6 : n ≤ 6) (hst : M 22 ≤ 11) : zk_ML l D g τ yX8_safe wmX8_safe rm_X8_safe [.ref (b 100), .int pq, .int t, .int part] [(b 100, .inr (8, [.ref (b 0), .ref (b 1), .ref (b 2), .ref (b 3), .int (m 4), .int (m 5), .int (nI n), .int (m 7), .ref (b 8), .int (m 9), .ref (b 10), .int (zm_tn tl tn), .int sb, .int sa, .int se, .int sf, .int sq, .ref (b 17), .ref (b 18), .ref (b 19), .ref (b 20), .ref (b 21), .ref (b 22), .ref (b 23), .ref (b 24), .int (m 25), .int (m 26), .int (m 27), .int (m 28), .ref (b 29), .ref (b 30), .int (m 31), .int (m 32), .int (m 33), .int (m 34), .int (m 35), .ref (b 36), .ref (b 37), .int (m 38), .ref (b 39), .ref (b 40), .int (m 41), .int (m 42), .int (m 43), .ref (b 44), .ref (b 45), .ref (b 46), .ref (b 47)])), (b 0, .inl (g 0, 23, .inl (fun i => nI (M i)))), (b 8, .inl (g 0, 120, .inl (fun i => nI (TP i)))), (b 10, .inl (g 0, 120, .inl (fun i => nI (TX i)))), (b 17, .inl (g 0, 6, .inl NM)), (b 18, .inl (g 3, 6468, .inl SN)), (b 19, .inl (g 0, 49, .inl (fun i => nI (PR i)))), (b 20, .inl (g 0, 4207, .inl (fun i => nI (ST i)))), (b 21, .inl (g 0, 4207, .inl (fun i => nI (HA i)))), (b 22, .inl (g 0, 4207, .inl (fun i => nI (FW i))))] (fun (r : Int64) (uu : Int32 × Int32 × Int32 × Int32 × Int32 × (Nat → Int32) × (Nat → Int32) × (Nat → Nat) × (Nat → Nat) × (Nat → Nat) × (Nat → Nat)) => r = zm_safe n (M 22) (zs_meet tl ev M (zm_S M) (zm_R M) (M 21)) pq t part) (fun (uu : Int32 × Int32 × Int32 × Int32 × Int32 × (Nat → Int32) × (Nat → Int32) × (Nat → Nat) × (Nat → Nat) × (Nat → Nat) × (Nat → Nat)) => [(b 100, .inr (8, [.ref (b 0), .ref (b 1), .ref (b 2), .ref (b 3), .int (m 4), .int (m 5), .int (nI n), .int (m 7), .ref (b 8), .int (m 9), .ref (b 10), .int (zm_tn tl tn), .int uu.1, .int uu.2.1, .int uu.2.2.1, .int uu.2.2.2.1, .int uu.2.2.2.2.1, .ref (b 17), .ref (b 18), .ref (b 19), .ref (b 20), .ref (b 21), .ref (b 22), .ref (b 23), .ref (b 24), .int (m 25), .int (m 26), .int (m 27), .int (m 28), .ref (b 29), .ref (b 30), .int (m 31), .int (m 32), .int (m 33), .int (m 34), .int (m 35), .ref (b 36), .ref (b 37), .int (m 38), .ref (b 39), .ref (b 40), .int (m 41), .int (m 42), .int (m 43), .ref (b 44), .ref (b 45), .ref (b 46), .ref (b 47)])), (b 0, .inl (g 0, 23, .inl (fun i => nI (M i)))), (b 8, .inl (g 0, 120, .inl (fun i => nI (TP i)))), (b 10, .inl (g 0, 120, .inl (fun i => nI (TX i)))), (b 17, .inl (g 0, 6, .inl uu.2.2.2.2.2.1)), (b 18, .inl (g 3, 6468, .inl uu.2.2.2.2.2.2.1)), (b 19, .inl (g 0, 49, .inl (fun i => nI (uu.2.2.2.2.2.2.2.1 i)))), (b 20, .inl (g 0, 4207, .inl (fun i => nI (uu.2.2.2.2.2.2.2.2.1 i)))), (b 21, .inl (g 0, 4207, .inl (fun i => nI (uu.2.2.2.2.2.2.2.2.2.1 i)))), (b 22, .inl (g 0, 4207, .inl (fun i => nI (uu.2.2.2.2.2.2.2.2.2.2 i))))]) := by
  refine zk_of (av := [.ref (b 100), .int pq, .int t, .int part]) (W0 := [(b 100, .inr (8, [.ref (b 0), .ref (b 1), .ref (b 2), .ref (b 3), .int (m 4), .int (m 5), .int (nI n), .int (m 7), .ref (b 8), .int (m 9), .ref (b 10), .int (zm_tn tl tn), .int sb, .int sa, .int se, .int sf, .int sq, .ref (b 17), .ref (b 18), .ref (b 19), .ref (b 20), .ref (b 21), .ref (b 22), .ref (b 23), .ref (b 24), .int (m 25), .int (m 26), .int (m 27), .int (m 28), .ref (b 29), .ref (b 30), .int (m 31), .int (m 32), .int (m 33), .int (m 34), .int (m 35), .ref (b 36), .ref (b 37), .int (m 38), .ref (b 39), .ref (b 40), .int (m 41), .int (m 42), .int (m 43), .ref (b 44), .ref (b 45), .ref (b 46), .ref (b 47)])), (b 0, .inl (g 0, 23, .inl (fun i => nI (M i)))), (b 8, .inl (g 0, 120, .inl (fun i => nI (TP i)))), (b 10, .inl (g 0, 120, .inl (fun i => nI (TX i)))), (b 17, .inl (g 0, 6, .inl NM)), (b 18, .inl (g 3, 6468, .inl SN)), (b 19, .inl (g 0, 49, .inl (fun i => nI (PR i)))), (b 20, .inl (g 0, 4207, .inl (fun i => nI (ST i)))), (b 21, .inl (g 0, 4207, .inl (fun i => nI (HA i)))), (b 22, .inl (g 0, 4207, .inl (fun i => nI (FW i))))]) (y := yX8_safe) (wd := wmX8_safe) (Qc := fun A => va_Ql (fun (r : Int64) (uu : Int32 × Int32 × Int32 × Int32 × Int32 × (Nat → Int32) × (Nat → Int32) × (Nat → Nat) × (Nat → Nat) × (Nat → Nat) × (Nat → Nat)) => r = zm_safe n (M 22) (zs_meet tl ev M (zm_S M) (zm_R M) (M 21)) pq t part) (zk_B D g A (fun (uu : Int32 × Int32 × Int32 × Int32 × Int32 × (Nat → Int32) × (Nat → Int32) × (Nat → Nat) × (Nat → Nat) × (Nat → Nat) × (Nat → Nat)) => [(b 100, .inr (8, [.ref (b 0), .ref (b 1), .ref (b 2), .ref (b 3), .int (m 4), .int (m 5), .int (nI n), .int (m 7), .ref (b 8), .int (m 9), .ref (b 10), .int (zm_tn tl tn), .int uu.1, .int uu.2.1, .int uu.2.2.1, .int uu.2.2.2.1, .int uu.2.2.2.2.1, .ref (b 17), .ref (b 18), .ref (b 19), .ref (b 20), .ref (b 21), .ref (b 22), .ref (b 23), .ref (b 24), .int (m 25), .int (m 26), .int (m 27), .int (m 28), .ref (b 29), .ref (b 30), .int (m 31), .int (m 32), .int (m 33), .int (m 34), .int (m 35), .ref (b 36), .ref (b 37), .int (m 38), .ref (b 39), .ref (b 40), .int (m 41), .int (m 42), .int (m 43), .ref (b 44), .ref (b 45), .ref (b 46), .ref (b 47)])), (b 0, .inl (g 0, 23, .inl (fun i => nI (M i)))), (b 8, .inl (g 0, 120, .inl (fun i => nI (TP i)))), (b 10, .inl (g 0, 120, .inl (fun i => nI (TX i)))), (b 17, .inl (g 0, 6, .inl uu.2.2.2.2.2.1)), (b 18, .inl (g 3, 6468, .inl uu.2.2.2.2.2.2.1)), (b 19, .inl (g 0, 49, .inl (fun i => nI (uu.2.2.2.2.2.2.2.1 i)))), (b 20, .inl (g 0, 4207, .inl (fun i => nI (uu.2.2.2.2.2.2.2.2.1 i)))), (b 21, .inl (g 0, 4207, .inl (fun i => nI (uu.2.2.2.2.2.2.2.2.2.1 i)))), (b 22, .inl (g 0, 4207, .inl (fun i => nI (uu.2.2.2.2.2.2.2.2.2.2 i))))])) A) (cc := cX8_safe) (maxL := 19) (ret := (some .long)) (own := RX8) (by decide) rfl rfl (Nat.le_of_ble_eq_true rfl) ?_
  intro pP eE sS mM args below meth cC aA ls qQ Z hR_ hlk hnm hK hT hA hQ G hl
  have hinX8 : ∀ w ∈ u_ws RX8 TX8 48, w ∈ wmX8_safe := wa8_in
  have hn := hW.1
  refine lv_aload_n Z.1 Z.2.1 dX8_safe_0 rfl (lv_at hl 0 rfl) ?_
  refine lv_iload_n Z.1 Z.2.1 dX8_safe_1 rfl (lv_at hl 1 rfl) ?_
  refine zk_ci (WF := fun (_ : Unit) => [(b 100, .inr (8, [.ref (b 0), .ref (b 1), .ref (b 2), .ref (b 3), .int (m 4), .int (m 5), .int (nI n), .int (m 7), .ref (b 8), .int (m 9), .ref (b 10), .int (zm_tn tl tn), .int sb, .int sa, .int se, .int sf, .int sq, .ref (b 17), .ref (b 18), .ref (b 19), .ref (b 20), .ref (b 21), .ref (b 22), .ref (b 23), .ref (b 24), .int (m 25), .int (m 26), .int (m 27), .int (m 28), .ref (b 29), .ref (b 30), .int (m 31), .int (m 32), .int (m 33), .int (m 34), .int (m 35), .ref (b 36), .ref (b 37), .int (m 38), .ref (b 39), .ref (b 40), .int (m 41), .int (m 42), .int (m 43), .ref (b 44), .ref (b 45), .ref (b 46), .ref (b 47)])), (b 0, .inl (g 0, 23, .inl (fun i => nI (M i)))), (b 8, .inl (g 0, 120, .inl (fun i => nI (TP i)))), (b 10, .inl (g 0, 120, .inl (fun i => nI (TX i)))), (b 17, .inl (g 0, 6, .inl NM)), (b 18, .inl (g 3, 6468, .inl SN)), (b 19, .inl (g 0, 49, .inl (fun i => nI (PR i)))), (b 20, .inl (g 0, 4207, .inl (fun i => nI (ST i)))), (b 21, .inl (g 0, 4207, .inl (fun i => nI (HA i)))), (b 22, .inl (g 0, 4207, .inl (fun i => nI (FW i))))]) (wr := [(b 0, .inl (g 0, 23, .inl (fun i => nI (M i)))), (b 8, .inl (g 0, 120, .inl (fun i => nI (TP i)))), (b 10, .inl (g 0, 120, .inl (fun i => nI (TX i)))), (b 17, .inl (g 0, 6, .inl NM)), (b 18, .inl (g 3, 6468, .inl SN)), (b 19, .inl (g 0, 49, .inl (fun i => nI (PR i)))), (b 20, .inl (g 0, 4207, .inl (fun i => nI (ST i)))), (b 21, .inl (g 0, 4207, .inl (fun i => nI (HA i)))), (b 22, .inl (g 0, 4207, .inl (fun i => nI (FW i))))]) ⟨rfl, rfl⟩ (zk_rv (As := [.int pq]) (rest := []) (q0 := 0) (ci := 8) Z ((ct_X8_isPq l D g τ b (upd (upd (upd (upd (upd (upd m 11 (zm_tn tl tn)) 12 sb) 13 sa) 14 se) 15 sf) 16 sq) n pq (by omega)) sS.heap.size) hK hT hA G [0] rfl (by decide) rfl rfl gmX8_safe_X8_isPq rfl dvX8_isPq ⟨by decide, by decide⟩ rfl hl.1 rfl (Nat.le_of_ble_eq_true rfl) dX8_safe_2 ⟨Nat.zero_le _, Nat.zero_le _⟩) hA G [0] [1, 2, 3, 4, 5, 6, 7, 8, 9] [9, 0, 1, 2, 3, 4, 5, 6, 7, 8] rfl rfl (by decide) (by decide) (by decide) (fun _ => rfl) (fun r_2 _ H locs w_2 G => ?_)
  obtain rfl : r_2 = zk_b (zb_pair n pq) := w_2
  refine lv_if_eq (tgt := 42) Z.1 Z.2.1 dX8_safe_5 (by decide) (fun c5 => ?_) (fun c5 => ?_)
  · have c5 : (zb_pair n pq) = false := zk_b0.mp c5
    refine lv_ldc2 (v := (-9223372036854775808)) Z.1 Z.2.1 Z.2.2.2.1 (Z.2.2.2.2 _ (List.mem_cons_of_mem _ wa8_212)) dX8_safe_42 ?_
    exact zk_retl Z hR_ hlk hK hQ G (sb, sa, se, sf, sq, NM, SN, PR, ST, HA, FW) (by simp only [zm_safe, c5, Bool.false_and, Bool.and_false]; rfl) rfl dX8_safe_45
  have c5 : (zb_pair n pq) = true := zk_b1.mp c5
  have c5_0 := c5
  obtain ⟨j, hj, rfl, hj2⟩ := zb_pair_ex c5
  refine lv_iload_n Z.1 Z.2.1 dX8_safe_8 rfl (lv_at hl 2 rfl) ?_
  refine zk_ci (WF := fun (_ : Unit) => [(b 100, .inr (8, [.ref (b 0), .ref (b 1), .ref (b 2), .ref (b 3), .int (m 4), .int (m 5), .int (nI n), .int (m 7), .ref (b 8), .int (m 9), .ref (b 10), .int (zm_tn tl tn), .int sb, .int sa, .int se, .int sf, .int sq, .ref (b 17), .ref (b 18), .ref (b 19), .ref (b 20), .ref (b 21), .ref (b 22), .ref (b 23), .ref (b 24), .int (m 25), .int (m 26), .int (m 27), .int (m 28), .ref (b 29), .ref (b 30), .int (m 31), .int (m 32), .int (m 33), .int (m 34), .int (m 35), .ref (b 36), .ref (b 37), .int (m 38), .ref (b 39), .ref (b 40), .int (m 41), .int (m 42), .int (m 43), .ref (b 44), .ref (b 45), .ref (b 46), .ref (b 47)])), (b 0, .inl (g 0, 23, .inl (fun i => nI (M i)))), (b 8, .inl (g 0, 120, .inl (fun i => nI (TP i)))), (b 10, .inl (g 0, 120, .inl (fun i => nI (TX i)))), (b 17, .inl (g 0, 6, .inl NM)), (b 18, .inl (g 3, 6468, .inl SN)), (b 19, .inl (g 0, 49, .inl (fun i => nI (PR i)))), (b 20, .inl (g 0, 4207, .inl (fun i => nI (ST i)))), (b 21, .inl (g 0, 4207, .inl (fun i => nI (HA i)))), (b 22, .inl (g 0, 4207, .inl (fun i => nI (FW i))))]) (wr := [(b 100, .inr (8, [.ref (b 0), .ref (b 1), .ref (b 2), .ref (b 3), .int (m 4), .int (m 5), .int (nI n), .int (m 7), .ref (b 8), .int (m 9), .ref (b 10), .int (zm_tn tl tn), .int sb, .int sa, .int se, .int sf, .int sq, .ref (b 17), .ref (b 18), .ref (b 19), .ref (b 20), .ref (b 21), .ref (b 22), .ref (b 23), .ref (b 24), .int (m 25), .int (m 26), .int (m 27), .int (m 28), .ref (b 29), .ref (b 30), .int (m 31), .int (m 32), .int (m 33), .int (m 34), .int (m 35), .ref (b 36), .ref (b 37), .int (m 38), .ref (b 39), .ref (b 40), .int (m 41), .int (m 42), .int (m 43), .ref (b 44), .ref (b 45), .ref (b 46), .ref (b 47)])), (b 0, .inl (g 0, 23, .inl (fun i => nI (M i)))), (b 8, .inl (g 0, 120, .inl (fun i => nI (TP i)))), (b 10, .inl (g 0, 120, .inl (fun i => nI (TX i)))), (b 17, .inl (g 0, 6, .inl NM)), (b 18, .inl (g 3, 6468, .inl SN)), (b 19, .inl (g 0, 49, .inl (fun i => nI (PR i)))), (b 20, .inl (g 0, 4207, .inl (fun i => nI (ST i)))), (b 21, .inl (g 0, 4207, .inl (fun i => nI (HA i)))), (b 22, .inl (g 0, 4207, .inl (fun i => nI (FW i))))]) ⟨rfl, rfl⟩ (zk_rs (As := [.int t]) (rest := []) Z ((ct_X8_isStep l D g τ t ) H.size) hK hT hA G [] rfl (by decide) gmX8_safe_X8_isStep rfl dvX8_isStep ⟨by decide, by decide⟩ rfl hl.1 rfl (Nat.le_of_ble_eq_true rfl) dX8_safe_9 ⟨Nat.zero_le _, Nat.zero_le _⟩) hA G [] [0, 1, 2, 3, 4, 5, 6, 7, 8, 9] [0, 1, 2, 3, 4, 5, 6, 7, 8, 9] rfl rfl (by decide) (by decide) (by decide) (fun _ => rfl) (fun r_9 _ H locs w_9 G => ?_)
  obtain rfl : r_9 = zk_b (zb_s t) := w_9
  refine lv_if_eq (tgt := 42) Z.1 Z.2.1 dX8_safe_12 (by decide) (fun c12 => ?_) (fun c12 => ?_)
  · have c12 : (zb_s t) = false := zk_b0.mp c12
    refine lv_ldc2 (v := (-9223372036854775808)) Z.1 Z.2.1 Z.2.2.2.1 (Z.2.2.2.2 _ (List.mem_cons_of_mem _ wa8_212)) dX8_safe_42 ?_
    exact zk_retl Z hR_ hlk hK hQ G (sb, sa, se, sf, sq, NM, SN, PR, ST, HA, FW) (by simp only [zm_safe, c12, Bool.false_and, Bool.and_false]; rfl) rfl dX8_safe_45
  have c12 : (zb_s t) = true := zk_b1.mp c12
  have c12_0 := c12
  obtain ⟨u, hu, rfl, hu2⟩ := zb_s_ex c12
  refine lv_iload_n Z.1 Z.2.1 dX8_safe_15 rfl (lv_at hl 3 rfl) ?_
  refine lv_if_lt (tgt := 42) Z.1 Z.2.1 dX8_safe_16 (by decide) (fun c16 => ?_) (fun c16 => ?_)
  · have c16 : part < 0 := c16
    have hok9 := zm_okp_neg c16
    refine lv_ldc2 (v := (-9223372036854775808)) Z.1 Z.2.1 Z.2.2.2.1 (Z.2.2.2.2 _ (List.mem_cons_of_mem _ wa8_212)) dX8_safe_42 ?_
    exact zk_retl Z hR_ hlk hK hQ G (sb, sa, se, sf, sq, NM, SN, PR, ST, HA, FW) (by simp only [zm_safe, hok9, Bool.false_and, Bool.and_false]; rfl) rfl dX8_safe_45
  have c16 : ¬ part < 0 := c16
  obtain ⟨v, hv, rfl⟩ := nI_of c16
  refine lv_iload_n Z.1 Z.2.1 dX8_safe_19 rfl (lv_at hl 3 rfl) ?_
  refine lv_bipush (v := nI 10) Z.1 Z.2.1 dX8_safe_20 (by decide +kernel) ?_
  refine zk_idiv Z dX8_safe_22 (nI_ne0 (by omega) (by omega)) (z := nI (v / 10)) (pk_div (by omega) (by omega) (by omega)) ?_
  refine lv_i2l (v := lN (v / 10)) Z.1 Z.2.1 dX8_safe_23 (nI_l (by omega)) ?_
  refine lv_lconst (v := lN 1) Z.1 Z.2.1 dX8_safe_24 (by decide +kernel) ?_
  refine lv_ldc2 (v := lN 2) Z.1 Z.2.1 Z.2.2.2.1 (Z.2.2.2.2 _ (List.mem_cons_of_mem _ wa8_211)) dX8_safe_25 ?_
  refine zk_ci (WF := fun (_ : Unit) => [(b 100, .inr (8, [.ref (b 0), .ref (b 1), .ref (b 2), .ref (b 3), .int (m 4), .int (m 5), .int (nI n), .int (m 7), .ref (b 8), .int (m 9), .ref (b 10), .int (zm_tn tl tn), .int sb, .int sa, .int se, .int sf, .int sq, .ref (b 17), .ref (b 18), .ref (b 19), .ref (b 20), .ref (b 21), .ref (b 22), .ref (b 23), .ref (b 24), .int (m 25), .int (m 26), .int (m 27), .int (m 28), .ref (b 29), .ref (b 30), .int (m 31), .int (m 32), .int (m 33), .int (m 34), .int (m 35), .ref (b 36), .ref (b 37), .int (m 38), .ref (b 39), .ref (b 40), .int (m 41), .int (m 42), .int (m 43), .ref (b 44), .ref (b 45), .ref (b 46), .ref (b 47)])), (b 0, .inl (g 0, 23, .inl (fun i => nI (M i)))), (b 8, .inl (g 0, 120, .inl (fun i => nI (TP i)))), (b 10, .inl (g 0, 120, .inl (fun i => nI (TX i)))), (b 17, .inl (g 0, 6, .inl NM)), (b 18, .inl (g 3, 6468, .inl SN)), (b 19, .inl (g 0, 49, .inl (fun i => nI (PR i)))), (b 20, .inl (g 0, 4207, .inl (fun i => nI (ST i)))), (b 21, .inl (g 0, 4207, .inl (fun i => nI (HA i)))), (b 22, .inl (g 0, 4207, .inl (fun i => nI (FW i))))]) (wr := [(b 100, .inr (8, [.ref (b 0), .ref (b 1), .ref (b 2), .ref (b 3), .int (m 4), .int (m 5), .int (nI n), .int (m 7), .ref (b 8), .int (m 9), .ref (b 10), .int (zm_tn tl tn), .int sb, .int sa, .int se, .int sf, .int sq, .ref (b 17), .ref (b 18), .ref (b 19), .ref (b 20), .ref (b 21), .ref (b 22), .ref (b 23), .ref (b 24), .int (m 25), .int (m 26), .int (m 27), .int (m 28), .ref (b 29), .ref (b 30), .int (m 31), .int (m 32), .int (m 33), .int (m 34), .int (m 35), .ref (b 36), .ref (b 37), .int (m 38), .ref (b 39), .ref (b 40), .int (m 41), .int (m 42), .int (m 43), .ref (b 44), .ref (b 45), .ref (b 46), .ref (b 47)])), (b 0, .inl (g 0, 23, .inl (fun i => nI (M i)))), (b 8, .inl (g 0, 120, .inl (fun i => nI (TP i)))), (b 10, .inl (g 0, 120, .inl (fun i => nI (TX i)))), (b 17, .inl (g 0, 6, .inl NM)), (b 18, .inl (g 3, 6468, .inl SN)), (b 19, .inl (g 0, 49, .inl (fun i => nI (PR i)))), (b 20, .inl (g 0, 4207, .inl (fun i => nI (ST i)))), (b 21, .inl (g 0, 4207, .inl (fun i => nI (HA i)))), (b 22, .inl (g 0, 4207, .inl (fun i => nI (FW i))))]) ⟨rfl, rfl⟩ (zk_rs (As := [.long (lN (v / 10)), .long (lN 1), .long (lN 2)]) (rest := []) Z ((ct_X8_within l D g τ (lN (v / 10)) (lN 1) (lN 2) ) H.size) hK hT hA G [] rfl (by decide) gmX8_safe_X8_within rfl dvX8_within ⟨by decide, by decide⟩ rfl hl.1 rfl (Nat.le_of_ble_eq_true rfl) dX8_safe_28 ⟨Nat.zero_le _, Nat.zero_le _⟩) hA G [] [0, 1, 2, 3, 4, 5, 6, 7, 8, 9] [0, 1, 2, 3, 4, 5, 6, 7, 8, 9] rfl rfl (by decide) (by decide) (by decide) (fun _ => rfl) (fun r_28 _ H locs w_28 G => ?_)
  obtain rfl : r_28 = zk_b (zm_in (lN (v / 10)) (lN 1) (lN 2)) := w_28
  refine lv_if_eq (tgt := 42) Z.1 Z.2.1 dX8_safe_31 (by decide) (fun c31 => ?_) (fun c31 => ?_)
  · have c31 : (zm_in (lN (v / 10)) (lN 1) (lN 2)) = false := zk_b0.mp c31
    have hok9 : zu_okp (nI v) = false := by rw [zm_okp_n hv, c31]; rfl
    refine lv_ldc2 (v := (-9223372036854775808)) Z.1 Z.2.1 Z.2.2.2.1 (Z.2.2.2.2 _ (List.mem_cons_of_mem _ wa8_212)) dX8_safe_42 ?_
    exact zk_retl Z hR_ hlk hK hQ G (sb, sa, se, sf, sq, NM, SN, PR, ST, HA, FW) (by simp only [zm_safe, hok9, Bool.false_and, Bool.and_false]; rfl) rfl dX8_safe_45
  have c31 : (zm_in (lN (v / 10)) (lN 1) (lN 2)) = true := zk_b1.mp c31
  refine lv_iload_n Z.1 Z.2.1 dX8_safe_34 rfl (lv_at hl 3 rfl) ?_
  refine lv_bipush (v := nI 10) Z.1 Z.2.1 dX8_safe_35 (by decide +kernel) ?_
  refine zk_irem Z dX8_safe_37 (nI_ne0 (by omega) (by omega)) (z := nI (v % 10)) (pk_rem (by omega) (by omega) (by omega)) ?_
  refine lv_iconst (v := nI 1) Z.1 Z.2.1 dX8_safe_38 (by decide +kernel) ?_
  refine lv_icmp_le (tgt := 46) Z.1 Z.2.1 dX8_safe_39 (by decide) (fun c39 => ?_) (fun c39 => ?_)
  · have c39 : v % 10 ≤ 1 := zk_le (by omega) (by omega) c39
    have hok9 : zu_okp (nI v) = true := by rw [zm_okp_n hv, c31, decide_eq_true c39]; rfl
    have hv2 : 1 ≤ v / 10 ∧ v / 10 ≤ 2 := by rw [zm_in_nn (by omega) (by decide) (by decide)] at c31; simp only [Bool.and_eq_true, decide_eq_true_eq] at c31; exact c31
    refine lv_aload_n Z.1 Z.2.1 dX8_safe_46 rfl (lv_at hl 0 rfl) ?_
    refine lv_iload_n Z.1 Z.2.1 dX8_safe_47 rfl (lv_at hl 1 rfl) ?_
    refine lv_bipush (v := nI 10) Z.1 Z.2.1 dX8_safe_48 (by decide +kernel) ?_
    refine zk_irem Z dX8_safe_50 (nI_ne0 (by omega) (by omega)) (z := nI (j % 10)) (pk_rem (by omega) (by omega) (by omega)) ?_
    refine lv_iload_n Z.1 Z.2.1 dX8_safe_51 rfl (lv_at hl 2 rfl) ?_
    refine zk_cv (WF := fun uu => [(b 100, .inr (8, [.ref (b 0), .ref (b 1), .ref (b 2), .ref (b 3), .int (m 4), .int (m 5), .int (nI n), .int (m 7), .ref (b 8), .int (m 9), .ref (b 10), .int (zm_tn tl tn), .int uu.1, .int uu.2.1, .int uu.2.2.1, .int uu.2.2.2.1, .int uu.2.2.2.2.1, .ref (b 17), .ref (b 18), .ref (b 19), .ref (b 20), .ref (b 21), .ref (b 22), .ref (b 23), .ref (b 24), .int (m 25), .int (m 26), .int (m 27), .int (m 28), .ref (b 29), .ref (b 30), .int (m 31), .int (m 32), .int (m 33), .int (m 34), .int (m 35), .ref (b 36), .ref (b 37), .int (m 38), .ref (b 39), .ref (b 40), .int (m 41), .int (m 42), .int (m 43), .ref (b 44), .ref (b 45), .ref (b 46), .ref (b 47)])), (b 0, .inl (g 0, 23, .inl (fun i => nI (M i)))), (b 8, .inl (g 0, 120, .inl (fun i => nI (TP i)))), (b 10, .inl (g 0, 120, .inl (fun i => nI (TX i)))), (b 17, .inl (g 0, 6, .inl uu.2.2.2.2.2.1)), (b 18, .inl (g 3, 6468, .inl uu.2.2.2.2.2.2.1)), (b 19, .inl (g 0, 49, .inl (fun i => nI (uu.2.2.2.2.2.2.2.1 i)))), (b 20, .inl (g 0, 4207, .inl (fun i => nI (uu.2.2.2.2.2.2.2.2.1 i)))), (b 21, .inl (g 0, 4207, .inl (fun i => nI (uu.2.2.2.2.2.2.2.2.2 i)))), (b 22, .inl (g 0, 4207, .inl (fun i => nI (FW i))))]) (wr := [(b 22, .inl (g 0, 4207, .inl (fun i => nI (FW i))))]) ⟨rfl, rfl⟩ (zk_rv (As := [.int (nI (j % 10)), .int (nI u)]) (rest := []) (q0 := 0) (ci := 8) Z ((ct_X8_looksFrom l D g τ b m sb sa se sf sq tn tl ev n M TP TX NM SN PR ST HA (j % 10) u (by exact hev) (by exact hW) (by exact hh) (by exact hj2.2.1) (by omega)) H.size) hK hT hA G [0, 1, 2, 3, 4, 5, 6, 7, 8] rfl (by decide) rfl rfl gmX8_safe_X8_looksFrom rfl dvX8_looksFrom ⟨by decide, by decide⟩ rfl hl.1 rfl (Nat.le_of_ble_eq_true rfl) dX8_safe_52 ⟨Nat.zero_le _, Nat.zero_le _⟩) hA G [0, 1, 2, 3, 4, 5, 6, 7, 8] [9] [1, 2, 3, 4, 5, 6, 7, 8, 9, 0] rfl rfl (by decide) (by decide) (by decide) (fun _ => rfl) (fun uu H locs w_52 G => ?_)
    obtain ⟨sb1_52, sa1_52, se1_52, sf1_52, sq1_52, NM1_52, SN1_52, PR1_52, ST1_52, HA1_52⟩ := uu
    have G : zk_G D aA [(b 100, .inr (8, [.ref (b 0), .ref (b 1), .ref (b 2), .ref (b 3), .int (m 4), .int (m 5), .int (nI n), .int (m 7), .ref (b 8), .int (m 9), .ref (b 10), .int (zm_tn tl tn), .int sb1_52, .int sa1_52, .int se1_52, .int sf1_52, .int sq1_52, .ref (b 17), .ref (b 18), .ref (b 19), .ref (b 20), .ref (b 21), .ref (b 22), .ref (b 23), .ref (b 24), .int (m 25), .int (m 26), .int (m 27), .int (m 28), .ref (b 29), .ref (b 30), .int (m 31), .int (m 32), .int (m 33), .int (m 34), .int (m 35), .ref (b 36), .ref (b 37), .int (m 38), .ref (b 39), .ref (b 40), .int (m 41), .int (m 42), .int (m 43), .ref (b 44), .ref (b 45), .ref (b 46), .ref (b 47)])), (b 0, .inl (g 0, 23, .inl (fun i => nI (M i)))), (b 8, .inl (g 0, 120, .inl (fun i => nI (TP i)))), (b 10, .inl (g 0, 120, .inl (fun i => nI (TX i)))), (b 17, .inl (g 0, 6, .inl NM1_52)), (b 18, .inl (g 3, 6468, .inl SN1_52)), (b 19, .inl (g 0, 49, .inl (fun i => nI (PR1_52 i)))), (b 20, .inl (g 0, 4207, .inl (fun i => nI (ST1_52 i)))), (b 21, .inl (g 0, 4207, .inl (fun i => nI (HA1_52 i)))), (b 22, .inl (g 0, 4207, .inl (fun i => nI (FW i))))] sS H locs := G
    refine lv_aload_n Z.1 Z.2.1 dX8_safe_55 rfl (lv_at hl 0 rfl) ?_
    have q1 := zm_bk_le 1 (zs_meet tl ev M (zm_S M) (zm_R M) (M 21)) n (j % 10) u 600 (j / 10)
    refine zk_get (C := RX8) (T := TX8) (N := 48) (ci := 8) Z hK G hinX8 0 rfl rfl 20 (by decide) (List.mem_cons_of_mem _ wa8_17) rfl (v := .ref (b 20)) rfl dX8_safe_56 ?_
    refine lv_iload_n Z.1 Z.2.1 dX8_safe_59 rfl (lv_at hl 1 rfl) ?_
    refine lv_bipush (v := nI 10) Z.1 Z.2.1 dX8_safe_60 (by decide +kernel) ?_
    refine zk_idiv Z dX8_safe_62 (nI_ne0 (by omega) (by omega)) (z := nI (j / 10)) (pk_div (by omega) (by omega) (by omega)) ?_
    refine zk_iald Z hK G 7 rfl (k := j / 10) (by omega) (by decide) (v := nI (zm_bk 1 (zs_meet tl ev M (zm_S M) (zm_R M) (M 21)) n (j % 10) u 600 (j / 10))) (congrArg nI (by have e := w_52.2.1 600 (Nat.le_refl _) (j / 10) hj2.1; rw [Nat.sub_self, Nat.mul_zero, Nat.zero_add] at e; exact e)) dX8_safe_63 ?_
    refine lv_ldc (v := nI 1000000) Z.1 Z.2.1 Z.2.2.2.1 (Z.2.2.2.2 _ (List.mem_cons_of_mem _ wa8_187)) dX8_safe_64 ?_
    refine lv_icmp_ne (tgt := 73) Z.1 Z.2.1 dX8_safe_66 (by decide) (fun c66 => ?_) (fun c66 => ?_)
    · have c66 : zm_bk 1 (zs_meet tl ev M (zm_S M) (zm_R M) (M 21)) n (j % 10) u 600 (j / 10) ≠ 1000000 := zk_neq (by omega) (by omega) c66
      have hs9 : zm_bk 1 (zs_meet tl ev M (zm_S M) (zm_R M) (M 21)) n (j % 10) u 600 (j / 10) ≤ 600 := (zm_bk_d 600 (j / 10)).resolve_left c66
      have hfl := zy_fw_lt (zm_wdok (tl := tl) (ev := ev) (P := M) (S := zm_S M) (R := zm_R M) (hide := M 21) hn) (t := u) hj2.1 hj2.2.1 hs9
      obtain ⟨hh, hH⟩ : ∃ hh, hh = zm_fw (zs_meet tl ev M (zm_S M) (zm_R M) (M 21)) n (j % 10) u (zm_bk 1 (zs_meet tl ev M (zm_S M) (zm_R M) (M 21)) n (j % 10) u 600 (j / 10)) (zm_bk 1 (zs_meet tl ev M (zm_S M) (zm_R M) (M 21)) n (j % 10) u 600 (j / 10)) (j / 10) := ⟨_, rfl⟩
      have hh6 : hh < 6 := by have h9 := hfl.2; rw [← hfl.1, ← hH] at h9; omega
      obtain ⟨X9, hX⟩ : ∃ X9, X9 = 12 ^ hh := ⟨_, rfl⟩
      obtain ⟨Y9, hY⟩ : ∃ Y9, Y9 = (12 - M 22) ^ hh := ⟨_, rfl⟩
      have hA1 : X9 ≤ 12 ^ 5 := by rw [hX]; exact Nat.pow_le_pow_right (by decide) (by omega)
      have hY1 : 1 ≤ Y9 := by rw [hY]; exact Nat.pow_pos (by omega)
      have hD : Y9 ≤ X9 := by rw [hX, hY]; exact Nat.pow_le_pow_left (by omega) hh
      have hC : X9 * X9 ≤ 12 ^ 5 * 12 ^ 5 := Nat.mul_le_mul hA1 hA1
      have hE : (X9 - Y9) * (X9 - Y9) ≤ X9 * X9 := Nat.mul_le_mul (Nat.sub_le _ _) (Nat.sub_le _ _)
      have hE2 : (X9 - Y9) * (X9 - Y9) < X9 * X9 := Nat.mul_lt_mul_of_lt_of_le (by omega) (Nat.sub_le _ _) (by omega)
      refine lv_aload_n Z.1 Z.2.1 dX8_safe_73 rfl (lv_at hl 0 rfl) ?_
      refine lv_iload_n Z.1 Z.2.1 dX8_safe_74 rfl (lv_at hl 1 rfl) ?_
      refine lv_bipush (v := nI 10) Z.1 Z.2.1 dX8_safe_75 (by decide +kernel) ?_
      refine zk_idiv Z dX8_safe_77 (nI_ne0 (by omega) (by omega)) (z := nI (j / 10)) (pk_div (by omega) (by omega) (by omega)) ?_
      refine lv_iload_n Z.1 Z.2.1 dX8_safe_78 rfl (lv_at hl 1 rfl) ?_
      refine lv_bipush (v := nI 10) Z.1 Z.2.1 dX8_safe_79 (by decide +kernel) ?_
      refine zk_irem Z dX8_safe_81 (nI_ne0 (by omega) (by omega)) (z := nI (j % 10)) (pk_rem (by omega) (by omega) (by omega)) ?_
      refine lv_iload_n Z.1 Z.2.1 dX8_safe_82 rfl (lv_at hl 2 rfl) ?_
      refine lv_iconst (v := nI 0) Z.1 Z.2.1 dX8_safe_83 (by decide +kernel) ?_
      refine zk_ci (WF := fun FW1_84 => [(b 100, .inr (8, [.ref (b 0), .ref (b 1), .ref (b 2), .ref (b 3), .int (m 4), .int (m 5), .int (nI n), .int (m 7), .ref (b 8), .int (m 9), .ref (b 10), .int (zm_tn tl tn), .int sb1_52, .int sa1_52, .int se1_52, .int sf1_52, .int sq1_52, .ref (b 17), .ref (b 18), .ref (b 19), .ref (b 20), .ref (b 21), .ref (b 22), .ref (b 23), .ref (b 24), .int (m 25), .int (m 26), .int (m 27), .int (m 28), .ref (b 29), .ref (b 30), .int (m 31), .int (m 32), .int (m 33), .int (m 34), .int (m 35), .ref (b 36), .ref (b 37), .int (m 38), .ref (b 39), .ref (b 40), .int (m 41), .int (m 42), .int (m 43), .ref (b 44), .ref (b 45), .ref (b 46), .ref (b 47)])), (b 0, .inl (g 0, 23, .inl (fun i => nI (M i)))), (b 8, .inl (g 0, 120, .inl (fun i => nI (TP i)))), (b 10, .inl (g 0, 120, .inl (fun i => nI (TX i)))), (b 17, .inl (g 0, 6, .inl NM1_52)), (b 18, .inl (g 3, 6468, .inl SN1_52)), (b 19, .inl (g 0, 49, .inl (fun i => nI (PR1_52 i)))), (b 20, .inl (g 0, 4207, .inl (fun i => nI (ST1_52 i)))), (b 21, .inl (g 0, 4207, .inl (fun i => nI (HA1_52 i)))), (b 22, .inl (g 0, 4207, .inl (fun i => nI (FW1_84 i))))]) (wr := [(b 0, .inl (g 0, 23, .inl (fun i => nI (M i)))), (b 8, .inl (g 0, 120, .inl (fun i => nI (TP i)))), (b 10, .inl (g 0, 120, .inl (fun i => nI (TX i)))), (b 17, .inl (g 0, 6, .inl NM1_52)), (b 21, .inl (g 0, 4207, .inl (fun i => nI (HA1_52 i))))]) ⟨rfl, rfl⟩ (zk_rv (As := [.int (nI (j / 10)), .int (nI (j % 10)), .int (nI u), .int (nI 0)]) (rest := []) (q0 := 0) (ci := 8) Z ((ct_X8_wayTo l D g τ b (upd (upd (upd (upd (upd (upd m 11 (zm_tn tl tn)) 12 sb1_52) 13 sa1_52) 14 se1_52) 15 sf1_52) 16 sq1_52) tl ev n M SN1_52 PR1_52 ST1_52 FW (j / 10) (j % 10) u 0 (zm_bk 1 (zs_meet tl ev M (zm_S M) (zm_R M) (M 21)) n (j % 10) u 600 (j / 10)) (by exact hW) (by exact w_52.1) (by exact hj2.1) (by exact hj2.2.1) (by omega) (by exact (by have e := w_52.2.1 600 (Nat.le_refl _) (j / 10) hj2.1; rw [Nat.sub_self, Nat.mul_zero, Nat.zero_add] at e; exact e)) (by exact hs9) (by omega)) H.size) hK hT hA G [0, 5, 6, 7, 9] rfl (by decide) rfl rfl gmX8_safe_X8_wayTo rfl dvX8_wayTo ⟨by decide, by decide⟩ rfl hl.1 rfl (Nat.le_of_ble_eq_true rfl) dX8_safe_84 ⟨Nat.zero_le _, Nat.zero_le _⟩) hA G [0, 5, 6, 7, 9] [1, 2, 3, 4, 8] [5, 0, 1, 2, 3, 6, 7, 8, 4, 9] rfl rfl (by decide) (by decide) (by decide) (fun _ => rfl) (fun r_84 FW1_84 H locs w_84 G => ?_)
      obtain ⟨h0_84, w_84⟩ := w_84
      obtain rfl : r_84 = nI (zm_hold (zs_meet tl ev M (zm_S M) (zm_R M) (M 21)) n (j % 10) u (zm_bk 1 (zs_meet tl ev M (zm_S M) (zm_R M) (M 21)) n (j % 10) u 600 (j / 10)) (j / 10) 0) := h0_84
      refine lv_pop Z.1 Z.2.1 dX8_safe_87 rfl ?_
      refine lv_aload_n Z.1 Z.2.1 dX8_safe_88 rfl (lv_at hl 0 rfl) ?_
      refine zk_get (C := RX8) (T := TX8) (N := 48) (ci := 8) Z hK G hinX8 0 rfl rfl 22 (by decide) (List.mem_cons_of_mem _ wa8_19) rfl (v := .ref (b 22)) rfl dX8_safe_89 ?_
      refine lv_iload_n Z.1 Z.2.1 dX8_safe_92 rfl (lv_at hl 1 rfl) ?_
      refine lv_bipush (v := nI 10) Z.1 Z.2.1 dX8_safe_93 (by decide +kernel) ?_
      refine zk_idiv Z dX8_safe_95 (nI_ne0 (by omega) (by omega)) (z := nI (j / 10)) (pk_div (by omega) (by omega) (by omega)) ?_
      refine zk_iald Z hK G 9 rfl (k := j / 10) (by omega) (by decide) (v := nI hh) (congrArg nI (by have e := w_84 (zm_bk 1 (zs_meet tl ev M (zm_S M) (zm_R M) (M 21)) n (j % 10) u 600 (j / 10)) (Nat.le_refl _) (j / 10) hj2.1; rw [Nat.sub_self, Nat.mul_zero, Nat.zero_add] at e; exact e.trans hH.symm)) dX8_safe_96 ?_
      refine lv_istore (lv' := [(4, .int (nI hh)), (0, .ref (b 100)), (1, .int (nI j)), (2, .int (nI u)), (3, .int (nI v))]) Z.1 Z.2.1 dX8_safe_97 hl (by decide) rfl (fun ls hl => ?_)
      refine lv_ldc2 (v := lN 12) Z.1 Z.2.1 Z.2.2.2.1 (Z.2.2.2.2 _ (List.mem_cons_of_mem _ wa8_51)) dX8_safe_99 ?_
      refine lv_iload Z.1 Z.2.1 dX8_safe_102 (lv_at hl 0 rfl) ?_
      refine zk_cl (WF := fun (_ : Unit) => [(b 100, .inr (8, [.ref (b 0), .ref (b 1), .ref (b 2), .ref (b 3), .int (m 4), .int (m 5), .int (nI n), .int (m 7), .ref (b 8), .int (m 9), .ref (b 10), .int (zm_tn tl tn), .int sb1_52, .int sa1_52, .int se1_52, .int sf1_52, .int sq1_52, .ref (b 17), .ref (b 18), .ref (b 19), .ref (b 20), .ref (b 21), .ref (b 22), .ref (b 23), .ref (b 24), .int (m 25), .int (m 26), .int (m 27), .int (m 28), .ref (b 29), .ref (b 30), .int (m 31), .int (m 32), .int (m 33), .int (m 34), .int (m 35), .ref (b 36), .ref (b 37), .int (m 38), .ref (b 39), .ref (b 40), .int (m 41), .int (m 42), .int (m 43), .ref (b 44), .ref (b 45), .ref (b 46), .ref (b 47)])), (b 0, .inl (g 0, 23, .inl (fun i => nI (M i)))), (b 8, .inl (g 0, 120, .inl (fun i => nI (TP i)))), (b 10, .inl (g 0, 120, .inl (fun i => nI (TX i)))), (b 17, .inl (g 0, 6, .inl NM1_52)), (b 18, .inl (g 3, 6468, .inl SN1_52)), (b 19, .inl (g 0, 49, .inl (fun i => nI (PR1_52 i)))), (b 20, .inl (g 0, 4207, .inl (fun i => nI (ST1_52 i)))), (b 21, .inl (g 0, 4207, .inl (fun i => nI (HA1_52 i)))), (b 22, .inl (g 0, 4207, .inl (fun i => nI (FW1_84 i))))]) (wr := [(b 100, .inr (8, [.ref (b 0), .ref (b 1), .ref (b 2), .ref (b 3), .int (m 4), .int (m 5), .int (nI n), .int (m 7), .ref (b 8), .int (m 9), .ref (b 10), .int (zm_tn tl tn), .int sb1_52, .int sa1_52, .int se1_52, .int sf1_52, .int sq1_52, .ref (b 17), .ref (b 18), .ref (b 19), .ref (b 20), .ref (b 21), .ref (b 22), .ref (b 23), .ref (b 24), .int (m 25), .int (m 26), .int (m 27), .int (m 28), .ref (b 29), .ref (b 30), .int (m 31), .int (m 32), .int (m 33), .int (m 34), .int (m 35), .ref (b 36), .ref (b 37), .int (m 38), .ref (b 39), .ref (b 40), .int (m 41), .int (m 42), .int (m 43), .ref (b 44), .ref (b 45), .ref (b 46), .ref (b 47)])), (b 0, .inl (g 0, 23, .inl (fun i => nI (M i)))), (b 8, .inl (g 0, 120, .inl (fun i => nI (TP i)))), (b 10, .inl (g 0, 120, .inl (fun i => nI (TX i)))), (b 17, .inl (g 0, 6, .inl NM1_52)), (b 18, .inl (g 3, 6468, .inl SN1_52)), (b 19, .inl (g 0, 49, .inl (fun i => nI (PR1_52 i)))), (b 20, .inl (g 0, 4207, .inl (fun i => nI (ST1_52 i)))), (b 21, .inl (g 0, 4207, .inl (fun i => nI (HA1_52 i)))), (b 22, .inl (g 0, 4207, .inl (fun i => nI (FW1_84 i))))]) ⟨rfl, rfl⟩ (zk_rs (As := [.long (lN 12), .int (nI hh)]) (rest := []) Z ((ct_X8_power l D g τ (lN 12) hh (by omega)) H.size) hK hT hA G [] rfl (by decide) gmX8_safe_X8_power rfl dvX8_power ⟨by decide, by decide⟩ rfl hl.1 rfl (Nat.le_of_ble_eq_true rfl) dX8_safe_104 ⟨Nat.zero_le _, Nat.zero_le _⟩) hA G [] [0, 1, 2, 3, 4, 5, 6, 7, 8, 9] [0, 1, 2, 3, 4, 5, 6, 7, 8, 9] rfl rfl (by decide) (by decide) (by decide) (fun _ => rfl) (fun r_104 _ H locs w_104 G => ?_)
      obtain rfl : r_104 = zm_pow (lN 12) hh := w_104
      refine W.eq (g2 := F0 mM 107 ls [.long (lN X9)]) (by rw [zm_pow_n, hX]) ?_
      refine lv_lstore (lv' := [(5, .long (lN X9)), (4, .int (nI hh)), (0, .ref (b 100)), (1, .int (nI j)), (2, .int (nI u)), (3, .int (nI v))]) Z.1 Z.2.1 dX8_safe_107 hl (by decide) rfl (fun ls hl => ?_)
      refine lv_lload Z.1 Z.2.1 dX8_safe_109 (lv_at hl 0 rfl) ?_
      refine lv_bipush (v := nI 12) Z.1 Z.2.1 dX8_safe_111 (by decide +kernel) ?_
      refine lv_aload_n Z.1 Z.2.1 dX8_safe_113 rfl (lv_at hl 2 rfl) ?_
      refine zk_get (C := RX8) (T := TX8) (N := 48) (ci := 8) Z hK G hinX8 0 rfl rfl 0 (by decide) (List.mem_cons_of_mem _ wa8_7) rfl (v := .ref (b 0)) rfl dX8_safe_114 ?_
      refine lv_bipush (v := nI 22) Z.1 Z.2.1 dX8_safe_117 (by decide +kernel) ?_
      refine zk_iald Z hK G 1 rfl (k := 22) (by omega) (by decide) (v := nI (M 22)) rfl dX8_safe_119 ?_
      refine zk_isub Z dX8_safe_120 (z := nI (12 - (M 22))) (pk_sub (by omega)) ?_
      refine lv_i2l (v := lN (12 - (M 22))) Z.1 Z.2.1 dX8_safe_121 (nI_l (by omega)) ?_
      refine lv_iload Z.1 Z.2.1 dX8_safe_122 (lv_at hl 1 rfl) ?_
      refine zk_cl (WF := fun (_ : Unit) => [(b 100, .inr (8, [.ref (b 0), .ref (b 1), .ref (b 2), .ref (b 3), .int (m 4), .int (m 5), .int (nI n), .int (m 7), .ref (b 8), .int (m 9), .ref (b 10), .int (zm_tn tl tn), .int sb1_52, .int sa1_52, .int se1_52, .int sf1_52, .int sq1_52, .ref (b 17), .ref (b 18), .ref (b 19), .ref (b 20), .ref (b 21), .ref (b 22), .ref (b 23), .ref (b 24), .int (m 25), .int (m 26), .int (m 27), .int (m 28), .ref (b 29), .ref (b 30), .int (m 31), .int (m 32), .int (m 33), .int (m 34), .int (m 35), .ref (b 36), .ref (b 37), .int (m 38), .ref (b 39), .ref (b 40), .int (m 41), .int (m 42), .int (m 43), .ref (b 44), .ref (b 45), .ref (b 46), .ref (b 47)])), (b 0, .inl (g 0, 23, .inl (fun i => nI (M i)))), (b 8, .inl (g 0, 120, .inl (fun i => nI (TP i)))), (b 10, .inl (g 0, 120, .inl (fun i => nI (TX i)))), (b 17, .inl (g 0, 6, .inl NM1_52)), (b 18, .inl (g 3, 6468, .inl SN1_52)), (b 19, .inl (g 0, 49, .inl (fun i => nI (PR1_52 i)))), (b 20, .inl (g 0, 4207, .inl (fun i => nI (ST1_52 i)))), (b 21, .inl (g 0, 4207, .inl (fun i => nI (HA1_52 i)))), (b 22, .inl (g 0, 4207, .inl (fun i => nI (FW1_84 i))))]) (wr := [(b 100, .inr (8, [.ref (b 0), .ref (b 1), .ref (b 2), .ref (b 3), .int (m 4), .int (m 5), .int (nI n), .int (m 7), .ref (b 8), .int (m 9), .ref (b 10), .int (zm_tn tl tn), .int sb1_52, .int sa1_52, .int se1_52, .int sf1_52, .int sq1_52, .ref (b 17), .ref (b 18), .ref (b 19), .ref (b 20), .ref (b 21), .ref (b 22), .ref (b 23), .ref (b 24), .int (m 25), .int (m 26), .int (m 27), .int (m 28), .ref (b 29), .ref (b 30), .int (m 31), .int (m 32), .int (m 33), .int (m 34), .int (m 35), .ref (b 36), .ref (b 37), .int (m 38), .ref (b 39), .ref (b 40), .int (m 41), .int (m 42), .int (m 43), .ref (b 44), .ref (b 45), .ref (b 46), .ref (b 47)])), (b 0, .inl (g 0, 23, .inl (fun i => nI (M i)))), (b 8, .inl (g 0, 120, .inl (fun i => nI (TP i)))), (b 10, .inl (g 0, 120, .inl (fun i => nI (TX i)))), (b 17, .inl (g 0, 6, .inl NM1_52)), (b 18, .inl (g 3, 6468, .inl SN1_52)), (b 19, .inl (g 0, 49, .inl (fun i => nI (PR1_52 i)))), (b 20, .inl (g 0, 4207, .inl (fun i => nI (ST1_52 i)))), (b 21, .inl (g 0, 4207, .inl (fun i => nI (HA1_52 i)))), (b 22, .inl (g 0, 4207, .inl (fun i => nI (FW1_84 i))))]) ⟨rfl, rfl⟩ (zk_rs (As := [.long (lN (12 - (M 22))), .int (nI hh)]) (rest := [.long (lN X9)]) Z ((ct_X8_power l D g τ (lN (12 - (M 22))) hh (by omega)) H.size) hK hT hA G [] rfl (by decide) gmX8_safe_X8_power rfl dvX8_power ⟨by decide, by decide⟩ rfl hl.1 rfl (Nat.le_of_ble_eq_true rfl) dX8_safe_124 ⟨Nat.zero_le _, Nat.zero_le _⟩) hA G [] [0, 1, 2, 3, 4, 5, 6, 7, 8, 9] [0, 1, 2, 3, 4, 5, 6, 7, 8, 9] rfl rfl (by decide) (by decide) (by decide) (fun _ => rfl) (fun r_124 _ H locs w_124 G => ?_)
      obtain rfl : r_124 = zm_pow (lN (12 - (M 22))) hh := w_124
      refine W.eq (g2 := F0 mM 127 ls [.long (lN Y9), .long (lN X9)]) (by rw [zm_pow_n, hY]) ?_
      refine zk_lsub Z dX8_safe_127 (z := lN (X9 - Y9)) (lN_sub (by omega)) ?_
      refine lv_lstore (lv' := [(7, .long (lN (X9 - Y9))), (5, .long (lN X9)), (4, .int (nI hh)), (0, .ref (b 100)), (1, .int (nI j)), (2, .int (nI u)), (3, .int (nI v))]) Z.1 Z.2.1 dX8_safe_128 hl (by decide) rfl (fun ls hl => ?_)
      refine lv_iload_n Z.1 Z.2.1 dX8_safe_130 rfl (lv_at hl 6 rfl) ?_
      refine lv_bipush (v := nI 10) Z.1 Z.2.1 dX8_safe_131 (by decide +kernel) ?_
      refine zk_idiv Z dX8_safe_133 (nI_ne0 (by omega) (by omega)) (z := nI (v / 10)) (pk_div (by omega) (by omega) (by omega)) ?_
      refine lv_iconst (v := nI 1) Z.1 Z.2.1 dX8_safe_134 (by decide +kernel) ?_
      refine lv_icmp_ne (tgt := 146) Z.1 Z.2.1 dX8_safe_135 (by decide) (fun c135 => ?_) (fun c135 => ?_)
      · have c135 : v / 10 ≠ 1 := zk_neq (by omega) (by omega) c135
        refine lv_lload Z.1 Z.2.1 dX8_safe_146 (lv_at hl 1 rfl) ?_
        refine lv_lload Z.1 Z.2.1 dX8_safe_148 (lv_at hl 1 rfl) ?_
        refine zk_lmul Z dX8_safe_150 (z := lN (X9 * X9)) (lN_mul _ _) ?_
        refine lv_lload Z.1 Z.2.1 dX8_safe_151 (lv_at hl 0 rfl) ?_
        refine lv_lload Z.1 Z.2.1 dX8_safe_153 (lv_at hl 0 rfl) ?_
        refine zk_lmul Z dX8_safe_155 (z := lN ((X9 - Y9) * (X9 - Y9))) (lN_mul _ _) ?_
        refine zk_lsub Z dX8_safe_156 (z := lN ((X9 * X9) - ((X9 - Y9) * (X9 - Y9)))) (lN_sub (by omega)) ?_
        refine lv_lstore (lv' := [(9, .long (lN ((X9 * X9) - ((X9 - Y9) * (X9 - Y9))))), (7, .long (lN (X9 - Y9))), (5, .long (lN X9)), (4, .int (nI hh)), (0, .ref (b 100)), (1, .int (nI j)), (2, .int (nI u)), (3, .int (nI v))]) Z.1 Z.2.1 dX8_safe_157 hl (by decide) rfl (fun ls hl => ?_)
        refine lv_iload_n Z.1 Z.2.1 dX8_safe_159 rfl (lv_at hl 7 rfl) ?_
        refine lv_bipush (v := nI 10) Z.1 Z.2.1 dX8_safe_160 (by decide +kernel) ?_
        refine zk_idiv Z dX8_safe_162 (nI_ne0 (by omega) (by omega)) (z := nI (v / 10)) (pk_div (by omega) (by omega) (by omega)) ?_
        refine lv_iconst (v := nI 1) Z.1 Z.2.1 dX8_safe_163 (by decide +kernel) ?_
        refine lv_icmp_ne (tgt := 172) Z.1 Z.2.1 dX8_safe_164 (by decide) (fun c164 => ?_) (fun c164 => ?_)
        · have c164 : v / 10 ≠ 1 := zk_neq (by omega) (by omega) c164
          refine lv_lload Z.1 Z.2.1 dX8_safe_172 (lv_at hl 2 rfl) ?_
          refine lv_lload Z.1 Z.2.1 dX8_safe_174 (lv_at hl 2 rfl) ?_
          refine zk_lmul Z dX8_safe_176 (z := lN (X9 * X9)) (lN_mul _ _) ?_
          refine lv_lstore (lv' := [(11, .long (lN (X9 * X9))), (9, .long (lN ((X9 * X9) - ((X9 - Y9) * (X9 - Y9))))), (7, .long (lN (X9 - Y9))), (5, .long (lN X9)), (4, .int (nI hh)), (0, .ref (b 100)), (1, .int (nI j)), (2, .int (nI u)), (3, .int (nI v))]) Z.1 Z.2.1 dX8_safe_177 hl (by decide) rfl (fun ls hl => ?_)
          obtain ⟨A9, hA9⟩ : ∃ A9, A9 = (X9 * X9) - ((X9 - Y9) * (X9 - Y9)) := ⟨_, rfl⟩
          obtain ⟨B9, hB9⟩ : ∃ B9, B9 = X9 * X9 := ⟨_, rfl⟩
          have hl : lv_has ls 19 [(11, .long (lN B9)), (9, .long (lN A9)), (7, .long (lN (X9 - Y9))), (5, .long (lN X9)), (4, .int (nI hh)), (0, .ref (b 100)), (1, .int (nI j)), (2, .int (nI u)), (3, .int (nI v))] := by rw [hA9, hB9]; exact hl
          have hAB : 1 ≤ A9 ∧ A9 ≤ B9 ∧ B9 < 2 ^ 62 := by subst hA9 hB9; omega
          refine lv_lload Z.1 Z.2.1 dX8_safe_179 (lv_at hl 1 rfl) ?_
          refine lv_lstore (lv' := [(13, .long (lN A9)), (11, .long (lN B9)), (9, .long (lN A9)), (7, .long (lN (X9 - Y9))), (5, .long (lN X9)), (4, .int (nI hh)), (0, .ref (b 100)), (1, .int (nI j)), (2, .int (nI u)), (3, .int (nI v))]) Z.1 Z.2.1 dX8_safe_181 hl (by decide) rfl (fun ls hl => ?_)
          refine lv_lload Z.1 Z.2.1 dX8_safe_183 (lv_at hl 1 rfl) ?_
          refine lv_lstore (lv' := [(15, .long (lN B9)), (13, .long (lN A9)), (11, .long (lN B9)), (9, .long (lN A9)), (7, .long (lN (X9 - Y9))), (5, .long (lN X9)), (4, .int (nI hh)), (0, .ref (b 100)), (1, .int (nI j)), (2, .int (nI u)), (3, .int (nI v))]) Z.1 Z.2.1 dX8_safe_185 hl (by decide) rfl (fun ls hl => ?_)
          have L187 : ∀ (nN : Nat) (x : Nat) (y : Nat), y < nN → (Nat.gcd x y = Nat.gcd A9 B9) → (x < 2 ^ 62) → (y < 2 ^ 62) → ∀ (H : Heap) (locs : List Loc) (ls : Array Slot), zk_G D aA [(b 100, .inr (8, [.ref (b 0), .ref (b 1), .ref (b 2), .ref (b 3), .int (m 4), .int (m 5), .int (nI n), .int (m 7), .ref (b 8), .int (m 9), .ref (b 10), .int (zm_tn tl tn), .int sb1_52, .int sa1_52, .int se1_52, .int sf1_52, .int sq1_52, .ref (b 17), .ref (b 18), .ref (b 19), .ref (b 20), .ref (b 21), .ref (b 22), .ref (b 23), .ref (b 24), .int (m 25), .int (m 26), .int (m 27), .int (m 28), .ref (b 29), .ref (b 30), .int (m 31), .int (m 32), .int (m 33), .int (m 34), .int (m 35), .ref (b 36), .ref (b 37), .int (m 38), .ref (b 39), .ref (b 40), .int (m 41), .int (m 42), .int (m 43), .ref (b 44), .ref (b 45), .ref (b 46), .ref (b 47)])), (b 0, .inl (g 0, 23, .inl (fun i => nI (M i)))), (b 8, .inl (g 0, 120, .inl (fun i => nI (TP i)))), (b 10, .inl (g 0, 120, .inl (fun i => nI (TX i)))), (b 17, .inl (g 0, 6, .inl NM1_52)), (b 18, .inl (g 3, 6468, .inl SN1_52)), (b 19, .inl (g 0, 49, .inl (fun i => nI (PR1_52 i)))), (b 20, .inl (g 0, 4207, .inl (fun i => nI (ST1_52 i)))), (b 21, .inl (g 0, 4207, .inl (fun i => nI (HA1_52 i)))), (b 22, .inl (g 0, 4207, .inl (fun i => nI (FW1_84 i))))] sS H locs → lv_has ls 19 [(0, .ref (b 100)), (1, .int (nI j)), (2, .int (nI u)), (3, .int (nI v)), (9, .long (lN A9)), (11, .long (lN B9)), (13, .long (lN x)), (15, .long (lN y))] → W pP l eE rm_X8_safe sS mM args below meth cC H locs 0 0 qQ (F0 mM 187 ls []) := by
            intro nN
            induction nN with
            | zero => intros; omega
            | succ nN ih187 =>
              intro x y hμ hg hx hy H locs ls G hl
              refine lv_lload Z.1 Z.2.1 dX8_safe_187 (lv_at hl 7 rfl) ?_
              refine lv_lconst (v := lN 0) Z.1 Z.2.1 dX8_safe_189 (by decide +kernel) ?_
              refine zk_lcmp Z dX8_safe_190 (z := lg_cmp (lN y) (lN 0)) rfl ?_
              refine lv_if_eq (tgt := 212) Z.1 Z.2.1 dX8_safe_191 (by decide) (fun c191 => ?_) (fun c191 => ?_)
              · have c191 : lg_cmp (lN y) (lN 0) = 0 := c191
                have hy0 : y = 0 := zs_lc0 (by omega) c191
                have hxg : x = Nat.gcd A9 B9 := by rw [← hg, hy0, Nat.gcd_zero_right]
                have hx1 : 1 ≤ x := by rw [hxg]; exact Nat.gcd_pos_of_pos_left _ hAB.1
                refine lv_iload_n Z.1 Z.2.1 dX8_safe_212 rfl (lv_at hl 3 rfl) ?_
                refine lv_bipush (v := nI 10) Z.1 Z.2.1 dX8_safe_213 (by decide +kernel) ?_
                refine zk_irem Z dX8_safe_215 (nI_ne0 (by omega) (by omega)) (z := nI (v % 10)) (pk_rem (by omega) (by omega) (by omega)) ?_
                refine lv_if_ne (tgt := 227) Z.1 Z.2.1 dX8_safe_216 (by decide) (fun c216 => ?_) (fun c216 => ?_)
                · have c216 : v % 10 ≠ 0 := zk_neq (by omega) (by omega) c216
                  refine lv_lload Z.1 Z.2.1 dX8_safe_227 (lv_at hl 5 rfl) ?_
                  refine lv_lload Z.1 Z.2.1 dX8_safe_229 (lv_at hl 6 rfl) ?_
                  refine zk_ldiv Z dX8_safe_231 (zk_lne0 (by omega) (by omega)) (z := lN (B9 / x)) (pk_lDiv (by omega) (by omega) (by omega)) ?_
                  exact zk_retl Z hR_ hlk hK hQ G (sb1_52, sa1_52, se1_52, sf1_52, sq1_52, NM1_52, SN1_52, PR1_52, ST1_52, HA1_52, FW1_84) (by simp only [zm_safe, c5_0, c12_0, hok9, zu_pn hj, zu_qn hj, zb_nat hu]; rw [if_pos (by rfl), if_neg c66, zb_nat hv]; rw [show zm_fw (zs_meet tl ev M (zm_S M) (zm_R M) (M 21)) n (j % 10) u (zm_bk 1 (zs_meet tl ev M (zm_S M) (zm_R M) (M 21)) n (j % 10) u 600 (j / 10)) (zm_bk 1 (zs_meet tl ev M (zm_S M) (zm_R M) (M 21)) n (j % 10) u 600 (j / 10)) (j / 10) = hh from hH.symm]; unfold zu_odds zt_low; rw [← hX, ← hY, if_pos (show v / 10 = 2 by omega), if_neg (show ¬ nI (v % 10) = 0 from fun q9 => c216 (zk_eq (b := 0) (by omega) (by decide) q9)), ← hA9, ← hB9, hxg]) rfl dX8_safe_232
                have c216 : v % 10 = 0 := zk_eq (by omega) (by omega) c216
                refine lv_lload Z.1 Z.2.1 dX8_safe_219 (lv_at hl 4 rfl) ?_
                refine lv_lload Z.1 Z.2.1 dX8_safe_221 (lv_at hl 6 rfl) ?_
                refine zk_ldiv Z dX8_safe_223 (zk_lne0 (by omega) (by omega)) (z := lN (A9 / x)) (pk_lDiv (by omega) (by omega) (by omega)) ?_
                refine lv_goto (tgt := 232) Z.1 Z.2.1 dX8_safe_224 (by decide) ?_
                exact zk_retl Z hR_ hlk hK hQ G (sb1_52, sa1_52, se1_52, sf1_52, sq1_52, NM1_52, SN1_52, PR1_52, ST1_52, HA1_52, FW1_84) (by simp only [zm_safe, c5_0, c12_0, hok9, zu_pn hj, zu_qn hj, zb_nat hu]; rw [if_pos (by rfl), if_neg c66, zb_nat hv]; rw [show zm_fw (zs_meet tl ev M (zm_S M) (zm_R M) (M 21)) n (j % 10) u (zm_bk 1 (zs_meet tl ev M (zm_S M) (zm_R M) (M 21)) n (j % 10) u 600 (j / 10)) (zm_bk 1 (zs_meet tl ev M (zm_S M) (zm_R M) (M 21)) n (j % 10) u 600 (j / 10)) (j / 10) = hh from hH.symm]; unfold zu_odds zt_low; rw [← hX, ← hY, if_pos (show v / 10 = 2 by omega), if_pos (show nI (v % 10) = 0 by rw [c216]; rfl), ← hA9, ← hB9, hxg]) rfl dX8_safe_232
              have c191 : ¬ lg_cmp (lN y) (lN 0) = 0 := c191
              have hy0 : y ≠ 0 := fun q9 => c191 (zs_lc1 q9)
              refine lv_lload Z.1 Z.2.1 dX8_safe_194 (lv_at hl 6 rfl) ?_
              refine lv_lload Z.1 Z.2.1 dX8_safe_196 (lv_at hl 7 rfl) ?_
              refine zk_lrem Z dX8_safe_198 (zk_lne0 (by omega) (by omega)) (z := lN (x % y)) (pk_lRem (by omega) (by omega) (by omega)) ?_
              refine lv_lstore (lv' := [(17, .long (lN (x % y))), (0, .ref (b 100)), (1, .int (nI j)), (2, .int (nI u)), (3, .int (nI v)), (9, .long (lN A9)), (11, .long (lN B9)), (13, .long (lN x)), (15, .long (lN y))]) Z.1 Z.2.1 dX8_safe_199 hl (by decide) rfl (fun ls hl => ?_)
              refine lv_lload Z.1 Z.2.1 dX8_safe_201 (lv_at hl 8 rfl) ?_
              refine lv_lstore (lv' := [(13, .long (lN y)), (17, .long (lN (x % y))), (0, .ref (b 100)), (1, .int (nI j)), (2, .int (nI u)), (3, .int (nI v)), (9, .long (lN A9)), (11, .long (lN B9)), (15, .long (lN y))]) Z.1 Z.2.1 dX8_safe_203 hl (by decide) rfl (fun ls hl => ?_)
              refine lv_lload Z.1 Z.2.1 dX8_safe_205 (lv_at hl 1 rfl) ?_
              refine lv_lstore (lv' := [(15, .long (lN (x % y))), (13, .long (lN y)), (17, .long (lN (x % y))), (0, .ref (b 100)), (1, .int (nI j)), (2, .int (nI u)), (3, .int (nI v)), (9, .long (lN A9)), (11, .long (lN B9))]) Z.1 Z.2.1 dX8_safe_207 hl (by decide) rfl (fun ls hl => ?_)
              refine lv_goto (tgt := 187) Z.1 Z.2.1 dX8_safe_209 (by decide) ?_
              exact ih187 y (x % y) (by exact Nat.lt_of_lt_of_le (Nat.mod_lt x (by omega)) (by omega)) (by exact zs_gcd_s hg) (by omega) (by exact Nat.lt_trans (Nat.mod_lt _ (by omega)) hy) _ _ _ G (lv_sub hl [3, 4, 5, 6, 7, 8, 1, 0] rfl)
          exact L187 _ A9 B9 (Nat.lt_succ_self _) (by rfl) (by omega) (by omega) _ _ _ G (lv_sub hl [7, 8, 9, 10, 3, 2, 1, 0] rfl)
        exfalso
        have c164 : v / 10 = 1 := zk_eq (by omega) (by omega) c164
        omega
      have c135 : v / 10 = 1 := zk_eq (by omega) (by omega) c135
      refine lv_lload Z.1 Z.2.1 dX8_safe_138 (lv_at hl 1 rfl) ?_
      refine lv_lload Z.1 Z.2.1 dX8_safe_140 (lv_at hl 0 rfl) ?_
      refine zk_lsub Z dX8_safe_142 (z := lN (X9 - (X9 - Y9))) (lN_sub (by omega)) ?_
      refine lv_goto (tgt := 157) Z.1 Z.2.1 dX8_safe_143 (by decide) ?_
      refine lv_lstore (lv' := [(9, .long (lN (X9 - (X9 - Y9)))), (7, .long (lN (X9 - Y9))), (5, .long (lN X9)), (4, .int (nI hh)), (0, .ref (b 100)), (1, .int (nI j)), (2, .int (nI u)), (3, .int (nI v))]) Z.1 Z.2.1 dX8_safe_157 hl (by decide) rfl (fun ls hl => ?_)
      refine lv_iload_n Z.1 Z.2.1 dX8_safe_159 rfl (lv_at hl 7 rfl) ?_
      refine lv_bipush (v := nI 10) Z.1 Z.2.1 dX8_safe_160 (by decide +kernel) ?_
      refine zk_idiv Z dX8_safe_162 (nI_ne0 (by omega) (by omega)) (z := nI (v / 10)) (pk_div (by omega) (by omega) (by omega)) ?_
      refine lv_iconst (v := nI 1) Z.1 Z.2.1 dX8_safe_163 (by decide +kernel) ?_
      refine lv_icmp_ne (tgt := 172) Z.1 Z.2.1 dX8_safe_164 (by decide) (fun c164 => ?_) (fun c164 => ?_)
      · exfalso
        have c164 : v / 10 ≠ 1 := zk_neq (by omega) (by omega) c164
        omega
      have c164 : v / 10 = 1 := zk_eq (by omega) (by omega) c164
      refine lv_lload Z.1 Z.2.1 dX8_safe_167 (lv_at hl 2 rfl) ?_
      refine lv_goto (tgt := 177) Z.1 Z.2.1 dX8_safe_169 (by decide) ?_
      refine lv_lstore (lv' := [(11, .long (lN X9)), (9, .long (lN (X9 - (X9 - Y9)))), (7, .long (lN (X9 - Y9))), (5, .long (lN X9)), (4, .int (nI hh)), (0, .ref (b 100)), (1, .int (nI j)), (2, .int (nI u)), (3, .int (nI v))]) Z.1 Z.2.1 dX8_safe_177 hl (by decide) rfl (fun ls hl => ?_)
      obtain ⟨A9, hA9⟩ : ∃ A9, A9 = X9 - (X9 - Y9) := ⟨_, rfl⟩
      obtain ⟨B9, hB9⟩ : ∃ B9, B9 = X9 := ⟨_, rfl⟩
      have hl : lv_has ls 19 [(11, .long (lN B9)), (9, .long (lN A9)), (7, .long (lN (X9 - Y9))), (5, .long (lN X9)), (4, .int (nI hh)), (0, .ref (b 100)), (1, .int (nI j)), (2, .int (nI u)), (3, .int (nI v))] := by rw [hA9, hB9]; exact hl
      have hAB : 1 ≤ A9 ∧ A9 ≤ B9 ∧ B9 < 2 ^ 62 := by subst hA9 hB9; omega
      refine lv_lload Z.1 Z.2.1 dX8_safe_179 (lv_at hl 1 rfl) ?_
      refine lv_lstore (lv' := [(13, .long (lN A9)), (11, .long (lN B9)), (9, .long (lN A9)), (7, .long (lN (X9 - Y9))), (5, .long (lN X9)), (4, .int (nI hh)), (0, .ref (b 100)), (1, .int (nI j)), (2, .int (nI u)), (3, .int (nI v))]) Z.1 Z.2.1 dX8_safe_181 hl (by decide) rfl (fun ls hl => ?_)
      refine lv_lload Z.1 Z.2.1 dX8_safe_183 (lv_at hl 1 rfl) ?_
      refine lv_lstore (lv' := [(15, .long (lN B9)), (13, .long (lN A9)), (11, .long (lN B9)), (9, .long (lN A9)), (7, .long (lN (X9 - Y9))), (5, .long (lN X9)), (4, .int (nI hh)), (0, .ref (b 100)), (1, .int (nI j)), (2, .int (nI u)), (3, .int (nI v))]) Z.1 Z.2.1 dX8_safe_185 hl (by decide) rfl (fun ls hl => ?_)
      have L187 : ∀ (nN : Nat) (x : Nat) (y : Nat), y < nN → (Nat.gcd x y = Nat.gcd A9 B9) → (x < 2 ^ 62) → (y < 2 ^ 62) → ∀ (H : Heap) (locs : List Loc) (ls : Array Slot), zk_G D aA [(b 100, .inr (8, [.ref (b 0), .ref (b 1), .ref (b 2), .ref (b 3), .int (m 4), .int (m 5), .int (nI n), .int (m 7), .ref (b 8), .int (m 9), .ref (b 10), .int (zm_tn tl tn), .int sb1_52, .int sa1_52, .int se1_52, .int sf1_52, .int sq1_52, .ref (b 17), .ref (b 18), .ref (b 19), .ref (b 20), .ref (b 21), .ref (b 22), .ref (b 23), .ref (b 24), .int (m 25), .int (m 26), .int (m 27), .int (m 28), .ref (b 29), .ref (b 30), .int (m 31), .int (m 32), .int (m 33), .int (m 34), .int (m 35), .ref (b 36), .ref (b 37), .int (m 38), .ref (b 39), .ref (b 40), .int (m 41), .int (m 42), .int (m 43), .ref (b 44), .ref (b 45), .ref (b 46), .ref (b 47)])), (b 0, .inl (g 0, 23, .inl (fun i => nI (M i)))), (b 8, .inl (g 0, 120, .inl (fun i => nI (TP i)))), (b 10, .inl (g 0, 120, .inl (fun i => nI (TX i)))), (b 17, .inl (g 0, 6, .inl NM1_52)), (b 18, .inl (g 3, 6468, .inl SN1_52)), (b 19, .inl (g 0, 49, .inl (fun i => nI (PR1_52 i)))), (b 20, .inl (g 0, 4207, .inl (fun i => nI (ST1_52 i)))), (b 21, .inl (g 0, 4207, .inl (fun i => nI (HA1_52 i)))), (b 22, .inl (g 0, 4207, .inl (fun i => nI (FW1_84 i))))] sS H locs → lv_has ls 19 [(0, .ref (b 100)), (1, .int (nI j)), (2, .int (nI u)), (3, .int (nI v)), (9, .long (lN A9)), (11, .long (lN B9)), (13, .long (lN x)), (15, .long (lN y))] → W pP l eE rm_X8_safe sS mM args below meth cC H locs 0 0 qQ (F0 mM 187 ls []) := by
        intro nN
        induction nN with
        | zero => intros; omega
        | succ nN ih187 =>
          intro x y hμ hg hx hy H locs ls G hl
          refine lv_lload Z.1 Z.2.1 dX8_safe_187 (lv_at hl 7 rfl) ?_
          refine lv_lconst (v := lN 0) Z.1 Z.2.1 dX8_safe_189 (by decide +kernel) ?_
          refine zk_lcmp Z dX8_safe_190 (z := lg_cmp (lN y) (lN 0)) rfl ?_
          refine lv_if_eq (tgt := 212) Z.1 Z.2.1 dX8_safe_191 (by decide) (fun c191 => ?_) (fun c191 => ?_)
          · have c191 : lg_cmp (lN y) (lN 0) = 0 := c191
            have hy0 : y = 0 := zs_lc0 (by omega) c191
            have hxg : x = Nat.gcd A9 B9 := by rw [← hg, hy0, Nat.gcd_zero_right]
            have hx1 : 1 ≤ x := by rw [hxg]; exact Nat.gcd_pos_of_pos_left _ hAB.1
            refine lv_iload_n Z.1 Z.2.1 dX8_safe_212 rfl (lv_at hl 3 rfl) ?_
            refine lv_bipush (v := nI 10) Z.1 Z.2.1 dX8_safe_213 (by decide +kernel) ?_
            refine zk_irem Z dX8_safe_215 (nI_ne0 (by omega) (by omega)) (z := nI (v % 10)) (pk_rem (by omega) (by omega) (by omega)) ?_
            refine lv_if_ne (tgt := 227) Z.1 Z.2.1 dX8_safe_216 (by decide) (fun c216 => ?_) (fun c216 => ?_)
            · have c216 : v % 10 ≠ 0 := zk_neq (by omega) (by omega) c216
              refine lv_lload Z.1 Z.2.1 dX8_safe_227 (lv_at hl 5 rfl) ?_
              refine lv_lload Z.1 Z.2.1 dX8_safe_229 (lv_at hl 6 rfl) ?_
              refine zk_ldiv Z dX8_safe_231 (zk_lne0 (by omega) (by omega)) (z := lN (B9 / x)) (pk_lDiv (by omega) (by omega) (by omega)) ?_
              exact zk_retl Z hR_ hlk hK hQ G (sb1_52, sa1_52, se1_52, sf1_52, sq1_52, NM1_52, SN1_52, PR1_52, ST1_52, HA1_52, FW1_84) (by rw [show X9 - (X9 - Y9) = Y9 by omega] at hA9; simp only [zm_safe, c5_0, c12_0, hok9, zu_pn hj, zu_qn hj, zb_nat hu]; rw [if_pos (by rfl), if_neg c66, zb_nat hv]; rw [show zm_fw (zs_meet tl ev M (zm_S M) (zm_R M) (M 21)) n (j % 10) u (zm_bk 1 (zs_meet tl ev M (zm_S M) (zm_R M) (M 21)) n (j % 10) u 600 (j / 10)) (zm_bk 1 (zs_meet tl ev M (zm_S M) (zm_R M) (M 21)) n (j % 10) u 600 (j / 10)) (j / 10) = hh from hH.symm]; unfold zu_odds zt_low; rw [← hX, ← hY, if_neg (show ¬ v / 10 = 2 by omega), if_neg (show ¬ nI (v % 10) = 0 from fun q9 => c216 (zk_eq (b := 0) (by omega) (by decide) q9)), ← hA9, ← hB9, hxg]) rfl dX8_safe_232
            have c216 : v % 10 = 0 := zk_eq (by omega) (by omega) c216
            refine lv_lload Z.1 Z.2.1 dX8_safe_219 (lv_at hl 4 rfl) ?_
            refine lv_lload Z.1 Z.2.1 dX8_safe_221 (lv_at hl 6 rfl) ?_
            refine zk_ldiv Z dX8_safe_223 (zk_lne0 (by omega) (by omega)) (z := lN (A9 / x)) (pk_lDiv (by omega) (by omega) (by omega)) ?_
            refine lv_goto (tgt := 232) Z.1 Z.2.1 dX8_safe_224 (by decide) ?_
            exact zk_retl Z hR_ hlk hK hQ G (sb1_52, sa1_52, se1_52, sf1_52, sq1_52, NM1_52, SN1_52, PR1_52, ST1_52, HA1_52, FW1_84) (by rw [show X9 - (X9 - Y9) = Y9 by omega] at hA9; simp only [zm_safe, c5_0, c12_0, hok9, zu_pn hj, zu_qn hj, zb_nat hu]; rw [if_pos (by rfl), if_neg c66, zb_nat hv]; rw [show zm_fw (zs_meet tl ev M (zm_S M) (zm_R M) (M 21)) n (j % 10) u (zm_bk 1 (zs_meet tl ev M (zm_S M) (zm_R M) (M 21)) n (j % 10) u 600 (j / 10)) (zm_bk 1 (zs_meet tl ev M (zm_S M) (zm_R M) (M 21)) n (j % 10) u 600 (j / 10)) (j / 10) = hh from hH.symm]; unfold zu_odds zt_low; rw [← hX, ← hY, if_neg (show ¬ v / 10 = 2 by omega), if_pos (show nI (v % 10) = 0 by rw [c216]; rfl), ← hA9, ← hB9, hxg]) rfl dX8_safe_232
          have c191 : ¬ lg_cmp (lN y) (lN 0) = 0 := c191
          have hy0 : y ≠ 0 := fun q9 => c191 (zs_lc1 q9)
          refine lv_lload Z.1 Z.2.1 dX8_safe_194 (lv_at hl 6 rfl) ?_
          refine lv_lload Z.1 Z.2.1 dX8_safe_196 (lv_at hl 7 rfl) ?_
          refine zk_lrem Z dX8_safe_198 (zk_lne0 (by omega) (by omega)) (z := lN (x % y)) (pk_lRem (by omega) (by omega) (by omega)) ?_
          refine lv_lstore (lv' := [(17, .long (lN (x % y))), (0, .ref (b 100)), (1, .int (nI j)), (2, .int (nI u)), (3, .int (nI v)), (9, .long (lN A9)), (11, .long (lN B9)), (13, .long (lN x)), (15, .long (lN y))]) Z.1 Z.2.1 dX8_safe_199 hl (by decide) rfl (fun ls hl => ?_)
          refine lv_lload Z.1 Z.2.1 dX8_safe_201 (lv_at hl 8 rfl) ?_
          refine lv_lstore (lv' := [(13, .long (lN y)), (17, .long (lN (x % y))), (0, .ref (b 100)), (1, .int (nI j)), (2, .int (nI u)), (3, .int (nI v)), (9, .long (lN A9)), (11, .long (lN B9)), (15, .long (lN y))]) Z.1 Z.2.1 dX8_safe_203 hl (by decide) rfl (fun ls hl => ?_)
          refine lv_lload Z.1 Z.2.1 dX8_safe_205 (lv_at hl 1 rfl) ?_
          refine lv_lstore (lv' := [(15, .long (lN (x % y))), (13, .long (lN y)), (17, .long (lN (x % y))), (0, .ref (b 100)), (1, .int (nI j)), (2, .int (nI u)), (3, .int (nI v)), (9, .long (lN A9)), (11, .long (lN B9))]) Z.1 Z.2.1 dX8_safe_207 hl (by decide) rfl (fun ls hl => ?_)
          refine lv_goto (tgt := 187) Z.1 Z.2.1 dX8_safe_209 (by decide) ?_
          exact ih187 y (x % y) (by exact Nat.lt_of_lt_of_le (Nat.mod_lt x (by omega)) (by omega)) (by exact zs_gcd_s hg) (by omega) (by exact Nat.lt_trans (Nat.mod_lt _ (by omega)) hy) _ _ _ G (lv_sub hl [3, 4, 5, 6, 7, 8, 1, 0] rfl)
      exact L187 _ A9 B9 (Nat.lt_succ_self _) (by rfl) (by omega) (by omega) _ _ _ G (lv_sub hl [7, 8, 9, 10, 3, 2, 1, 0] rfl)
    have c66 : zm_bk 1 (zs_meet tl ev M (zm_S M) (zm_R M) (M 21)) n (j % 10) u 600 (j / 10) = 1000000 := zk_eq (by omega) (by omega) c66
    refine lv_ldc2 (v := (-9223372036854775808)) Z.1 Z.2.1 Z.2.2.2.1 (Z.2.2.2.2 _ (List.mem_cons_of_mem _ wa8_212)) dX8_safe_69 ?_
    exact zk_retl Z hR_ hlk hK hQ G (sb1_52, sa1_52, se1_52, sf1_52, sq1_52, NM1_52, SN1_52, PR1_52, ST1_52, HA1_52, FW) (by simp only [zm_safe, c5_0, c12_0, hok9, zu_pn hj, zu_qn hj, zb_nat hu]; rw [if_pos (by rfl), if_pos c66]) rfl dX8_safe_72
  have c39 : 1 < v % 10 := zk_nle (by omega) (by omega) c39
  have hok9 : zu_okp (nI v) = false := by rw [zm_okp_n hv, decide_eq_false (show ¬ v % 10 ≤ 1 by omega)]; exact Bool.and_false _
  refine lv_ldc2 (v := (-9223372036854775808)) Z.1 Z.2.1 Z.2.2.2.1 (Z.2.2.2.2 _ (List.mem_cons_of_mem _ wa8_212)) dX8_safe_42 ?_
  exact zk_retl Z hR_ hlk hK hQ G (sb, sa, se, sf, sq, NM, SN, PR, ST, HA, FW) (by simp only [zm_safe, hok9, Bool.false_and, Bool.and_false]; rfl) rfl dX8_safe_45
