/-! Relays' acts: which body runs, what it asks for. -/
def zr_hd (k act : Nat) : Nat := [0, 0, 0, 0, 1, 0, 0, 0, 0, 2, 0, 0, 0, 3, 3, 0, 1, 0, 4, 0, 0, 3, 3, 5, 6, 0, 0, 0, 1, 7, 4, 7].getD (k * 4 + act) 0
def zr_ab (k act : Nat) : Nat := [0, 0, 0, 2, 1, 3, 0, 4].getD (zr_hd k act) 0
def zr_rk (act : Nat) : Nat := [0, 2, 1, 3].getD act 0
def zr_lv (k : Nat) : Nat := [1, 2, 2, 3, 3, 4, 2, 4].getD k 0
def zr_B (k act : Nat) : Nat := zk_own (zr_hd k act * 4 + act)
theorem zr_hd_e : ∀ k, k < 8 → ∀ act, act < 4 → zr_hold act 8 (nI k) = nI (zr_hd k act) ∧ zr_hd k act < 8 ∧ zr_ab k act < 8 ∧ 5 * zr_rk act + zr_lv k ≤ 19 := by decide +kernel
theorem zr_up : ∀ k, k < 8 → ∀ act, act < 4 → (zr_B k act = 20 ∨ zr_B k act = 30 ∨ zr_B k act = 40 ∨ zr_B k act = 41 ∨ zr_B k act = 50 ∨ zr_B k act = 60 ∨ zr_B k act = 70 ∨ zr_B k act = 80 ∨ zr_B k act = 81) → zk_abo (zr_hd k act) = nI (zr_ab k act) ∧ 5 * zr_rk act + zr_lv (zr_ab k act) < 5 * zr_rk act + zr_lv k := by decide +kernel
theorem zr_lv_in : ∀ k, k < 8 → 1 ≤ zr_lv k ∧ zr_lv k ≤ 4 := by decide
def zr_ao (b : Nat) : Nat := if b = 1 ∨ b = 20 ∨ b = 70 then 0 else if b = 10 ∨ b = 30 ∨ b = 41 ∨ b = 80 then 1 else if b = 11 ∨ b = 40 ∨ b = 50 then 2 else 3
theorem zr_act : ∀ k, k < 8 → ∀ act, act < 4 → act = zr_ao (zr_B k act) := by decide +kernel
theorem zr_B_in : ∀ k, k < 8 → ∀ act, act < 4 → zr_B k act = 1 ∨ zr_B k act = 2 ∨ zr_B k act = 10 ∨ zr_B k act = 11 ∨ zr_B k act = 20 ∨ zr_B k act = 30 ∨ zr_B k act = 40 ∨ zr_B k act = 41 ∨ zr_B k act = 50 ∨ zr_B k act = 60 ∨ zr_B k act = 70 ∨ zr_B k act = 80 ∨ zr_B k act = 81 := by decide +kernel
abbrev zr_T : Type := Nat × (Nat → Nat)
def zr_bg (b : Nat) (s : zr_T) : zr_T := (s.1 + 1, if s.1 < 24 then zs_up s.2 s.1 b else s.2)
def zr_run (own : Nat) (nb : Int32) : Nat → Nat → Nat → Int32 → zr_T → Int32 × zr_T
  | 0, _, _, _, s => (0, s)
  | f + 1, k, act, x, s =>
    if zr_B k act = 1 then (x + nb, zr_bg 1 s)
    else if zr_B k act = 2 then ((zr_run own nb f own 1 x (zr_bg 2 s)).1 - (zr_run own nb f own 2 (nI 1) (zr_run own nb f own 1 x (zr_bg 2 s)).2).1, (zr_run own nb f own 2 (nI 1) (zr_run own nb f own 1 x (zr_bg 2 s)).2).2)
    else if zr_B k act = 10 then ((zr_run own nb f own 0 x (zr_bg 10 s)).1 * nI 2, (zr_run own nb f own 0 x (zr_bg 10 s)).2)
    else if zr_B k act = 11 then (x ^^^ nb, zr_bg 11 s)
    else if zr_B k act = 20 then ((zr_run own nb f (zr_ab k act) 0 x (zr_bg 20 s)).1 + nI 3, (zr_run own nb f (zr_ab k act) 0 x (zr_bg 20 s)).2)
    else if zr_B k act = 30 then (0 - (zr_run own nb f (zr_ab k act) 1 x (zr_bg 30 s)).1, (zr_run own nb f (zr_ab k act) 1 x (zr_bg 30 s)).2)
    else if zr_B k act = 40 then ((zr_run own nb f (zr_ab k act) 2 x (zr_bg 40 s)).1 * nI 3, (zr_run own nb f (zr_ab k act) 2 x (zr_bg 40 s)).2)
    else if zr_B k act = 41 then ((zr_run own nb f (zr_ab k act) 1 (x + nI 1) (zr_bg 41 s)).1, (zr_run own nb f (zr_ab k act) 1 (x + nI 1) (zr_bg 41 s)).2)
    else if zr_B k act = 50 then ((zr_run own nb f (zr_ab k act) 2 x (zr_bg 50 s)).1 - (zr_run own nb f own 0 (nI 2) (zr_run own nb f (zr_ab k act) 2 x (zr_bg 50 s)).2).1, (zr_run own nb f own 0 (nI 2) (zr_run own nb f (zr_ab k act) 2 x (zr_bg 50 s)).2).2)
    else if zr_B k act = 60 then ((zr_run own nb f (zr_ab k act) 3 x (zr_bg 60 s)).1 ^^^ nI 5, (zr_run own nb f (zr_ab k act) 3 x (zr_bg 60 s)).2)
    else if zr_B k act = 70 then ((zr_run own nb f (zr_ab k act) 0 x (zr_bg 70 s)).1 * nI 2, (zr_run own nb f (zr_ab k act) 0 x (zr_bg 70 s)).2)
    else if zr_B k act = 80 then ((zr_run own nb f (zr_ab k act) 1 x (zr_bg 80 s)).1 + (zr_run own nb f own 2 (nI 2) (zr_run own nb f (zr_ab k act) 1 x (zr_bg 80 s)).2).1, (zr_run own nb f own 2 (nI 2) (zr_run own nb f (zr_ab k act) 1 x (zr_bg 80 s)).2).2)
    else if zr_B k act = 81 then ((zr_run own nb f (zr_ab k act) 3 x (zr_bg 81 s)).1 - nI 1, (zr_run own nb f (zr_ab k act) 3 x (zr_bg 81 s)).2)
    else (0, zr_bg (zr_B k act) s)
theorem zr_p2 (f : Nat) : 2 ^ (f + 1) = 2 ^ f + 2 ^ f := by rw [Nat.pow_succ]; omega
theorem zr_p1 (f : Nat) : 1 ≤ 2 ^ f := Nat.pow_pos (by decide)

abbrev rm_X3_run (f : Nat) : Room := { frames := f + 4, cells := 0, slots := 0, locals := 60 * f + 150 }
theorem dvX3_run : zk_dv yX3_run RX3 4 := by decide +kernel
def zr_MR (l : Launch) (D : va_G) (g : Nat → ClassId) (τ : Nat → Nat) (f : Nat) : Prop := ∀ (a : Nat → Nat) (zr : Nat) (rn : Nat) (nb : Nat) (TR : Nat → Nat) (KD : Nat → Nat) (k9 : Nat) (act : Nat) (x : Int32) (dp : Nat), (nb < 50) → (KD nb < 8) → (k9 < 8) → (act < 4) → (5 * zr_rk act + zr_lv k9 ≤ f) → (dp + f ≤ 40) → (rn + 2 ^ f ≤ 2 ^ 30) → zk_MI l D g τ yX3_run wsX3_run (rm_X3_run f) [.ref (a 7), .int (nI k9), .int (nI act), .int x, .int (nI dp)] [(a 7, .inr (3, [.int (nI zr), .int (nI rn), .ref (a 70), .ref (a 71), .int (nI nb)])), (a 70, .inl (g 0, 24, .inl (fun i => nI (TR i)))), (a 71, .inl (g 0, 50, .inl (fun i => nI (KD i))))] (fun (r : Int32) (uu : Nat × (Nat → Nat)) => (r = (zr_run (KD nb) (nI nb) f k9 act x (rn, TR)).1) ∧ ((uu.1, uu.2) = (zr_run (KD nb) (nI nb) f k9 act x (rn, TR)).2 ∧ uu.1 + 1 ≤ rn + 2 ^ f)) (fun (uu : Nat × (Nat → Nat)) => [(a 7, .inr (3, [.int (nI zr), .int (nI uu.1), .ref (a 70), .ref (a 71), .int (nI nb)])), (a 70, .inl (g 0, 24, .inl (fun i => nI (uu.2 i)))), (a 71, .inl (g 0, 50, .inl (fun i => nI (KD i))))])
set_option maxRecDepth 100000 in
set_option maxHeartbeats 4000000 in
theorem ct_X3_run_s (l : Launch) (D : va_G) (g : Nat → ClassId) (τ : Nat → Nat) (f : Nat) (ih : zr_MR l D g τ f) : zr_MR l D g τ (f + 1) := by
  intro a zr rn nb TR KD k9 act x dp hnb hown hk hact hM hdp hrn
  refine zk_of (Qc := fun A => va_Qi (fun (r : Int32) (uu : Nat × (Nat → Nat)) => (r = (zr_run (KD nb) (nI nb) (f + 1) k9 act x (rn, TR)).1) ∧ ((uu.1, uu.2) = (zr_run (KD nb) (nI nb) (f + 1) k9 act x (rn, TR)).2 ∧ uu.1 + 1 ≤ rn + 2 ^ (f + 1))) (zk_B D g A (fun (uu : Nat × (Nat → Nat)) => [(a 7, .inr (3, [.int (nI zr), .int (nI uu.1), .ref (a 70), .ref (a 71), .int (nI nb)])), (a 70, .inl (g 0, 24, .inl (fun i => nI (uu.2 i)))), (a 71, .inl (g 0, 50, .inl (fun i => nI (KD i))))])) A) (cc := cX3_run) (maxL := 10) (ret := (some .int)) (own := RX3) (by decide) rfl rfl (Nat.le_of_ble_eq_true rfl) ?_
  intro pP eE sS mM args below meth cC aA ls qQ Z hR_ hlk hnm hK hT hA hQ G hl
  have hinX3 : ∀ w ∈ u_ws RX3 TX3 5, w ∈ wsX3_run := (fun _ h => List.mem_cons_of_mem _ (List.mem_append_right _ h))
  obtain ⟨hh9, hh7, hh8, -⟩ := zr_hd_e k9 hk act hact
  have ha9 := zr_act k9 hk act hact
  refine lv_iload_n Z.1 Z.2.1 dX3_run_0 rfl (lv_at hl 1 rfl) ?_
  refine lv_iload_n Z.1 Z.2.1 dX3_run_1 rfl (lv_at hl 2 rfl) ?_
  refine zk_ci (WF := fun (_ : Unit) => [(a 7, .inr (3, [.int (nI zr), .int (nI rn), .ref (a 70), .ref (a 71), .int (nI nb)])), (a 70, .inl (g 0, 24, .inl (fun i => nI (TR i)))), (a 71, .inl (g 0, 50, .inl (fun i => nI (KD i))))]) (wr := [(a 7, .inr (3, [.int (nI zr), .int (nI rn), .ref (a 70), .ref (a 71), .int (nI nb)])), (a 70, .inl (g 0, 24, .inl (fun i => nI (TR i)))), (a 71, .inl (g 0, 50, .inl (fun i => nI (KD i))))]) ⟨rfl, rfl⟩ (zk_rs (As := [.int (nI k9), .int (nI act)]) (rest := []) Z ((ct_X3_holderOf l D g τ (nI k9) act (by exact hact)) sS.heap.size) hK hT hA G [] rfl (by decide) gX3_run_X3_holderOf rfl dvX3_holderOf ⟨by first | decide | (simp only [rm_X3_run]; omega), by first | decide | (simp only [rm_X3_run]; omega)⟩ rfl hl.1 rfl (Nat.le_of_ble_eq_true rfl) dX3_run_2 ⟨Nat.zero_le _, Nat.zero_le _⟩) hA G [] [0, 1, 2] [0, 1, 2] rfl rfl (by decide) (by decide) (by decide) (fun _ => rfl) (fun r_2 _ H locs w_2 G => ?_)
  obtain rfl : r_2 = zr_hold act 8 (nI k9) := w_2
  rw [hh9]
  refine lv_istore (lv' := [(5, .int (nI (zr_hd k9 act))), (0, .ref (a 7)), (1, .int (nI k9)), (2, .int (nI act)), (3, .int x), (4, .int (nI dp))]) Z.1 Z.2.1 dX3_run_5 hl (by decide) rfl (fun ls hl => ?_)
  refine lv_iload Z.1 Z.2.1 dX3_run_7 (lv_at hl 0 rfl) ?_
  refine lv_if_lt (tgt := 19) Z.1 Z.2.1 dX3_run_9 (by decide) (fun c9 => ?_) (fun c9 => ?_)
  · exfalso
    have c9 : zr_hd k9 act < 0 := zk_lt (by omega) (by omega) c9
    omega
  have c9 : 0 ≤ zr_hd k9 act := zk_nlt (by omega) (by omega) c9
  refine lv_iload Z.1 Z.2.1 dX3_run_12 (lv_at hl 5 rfl) ?_
  refine lv_bipush (v := nI 40) Z.1 Z.2.1 dX3_run_14 (by decide +kernel) ?_
  refine lv_icmp_le (tgt := 21) Z.1 Z.2.1 dX3_run_16 (by decide) (fun c16 => ?_) (fun c16 => ?_)
  · have c16 : dp ≤ 40 := zk_le (by omega) (by omega) c16
    refine lv_aload_n Z.1 Z.2.1 dX3_run_21 rfl (lv_at hl 1 rfl) ?_
    refine zk_get (C := RX3) (T := TX3) (N := 5) (ci := 3) Z hK G hinX3 0 rfl rfl 3 (by decide) (List.mem_of_getElem? (i := 1) rfl) rfl (v := .ref (a 71)) rfl dX3_run_22 ?_
    refine lv_aload_n Z.1 Z.2.1 dX3_run_25 rfl (lv_at hl 1 rfl) ?_
    refine zk_get (C := RX3) (T := TX3) (N := 5) (ci := 3) Z hK G hinX3 0 rfl rfl 4 (by decide) (List.mem_of_getElem? (i := 2) rfl) rfl (v := .int (nI nb)) rfl dX3_run_26 ?_
    refine zk_iald Z hK G 2 rfl (k := nb) (by omega) (by decide) (v := nI (KD nb)) rfl dX3_run_29 ?_
    refine lv_istore (lv' := [(6, .int (nI (KD nb))), (5, .int (nI (zr_hd k9 act))), (0, .ref (a 7)), (1, .int (nI k9)), (2, .int (nI act)), (3, .int x), (4, .int (nI dp))]) Z.1 Z.2.1 dX3_run_30 hl (by decide) rfl (fun ls hl => ?_)
    refine zk_gets Z G hT.2.2.1 (List.mem_of_getElem? (i := 3) rfl) dX3_run_32 ?_
    refine lv_iload Z.1 Z.2.1 dX3_run_35 (lv_at hl 1 rfl) ?_
    refine zk_ti Z G hT.2.2.1 (k := zr_hd k9 act) (by omega) (by decide) (v := .int (zk_abo (zr_hd k9 act))) rfl dX3_run_37 ?_
    refine lv_istore (lv' := [(7, .int (zk_abo (zr_hd k9 act))), (6, .int (nI (KD nb))), (5, .int (nI (zr_hd k9 act))), (0, .ref (a 7)), (1, .int (nI k9)), (2, .int (nI act)), (3, .int x), (4, .int (nI dp))]) Z.1 Z.2.1 dX3_run_38 hl (by decide) rfl (fun ls hl => ?_)
    refine zk_gets Z G hT.2.2.2.1 (List.mem_of_getElem? (i := 4) rfl) dX3_run_40 ?_
    refine lv_iload Z.1 Z.2.1 dX3_run_43 (lv_at hl 2 rfl) ?_
    refine lv_iconst (v := nI 4) Z.1 Z.2.1 dX3_run_45 (by decide +kernel) ?_
    refine zk_imul Z dX3_run_46 (z := nI ((zr_hd k9 act) * 4)) (pk_mul _ _) ?_
    refine lv_iload_n Z.1 Z.2.1 dX3_run_47 rfl (lv_at hl 5 rfl) ?_
    refine zk_iadd Z dX3_run_48 (z := nI ((zr_hd k9 act) * 4 + act)) (nI_add _ _) ?_
    refine zk_ti Z G hT.2.2.2.1 (k := (zr_hd k9 act) * 4 + act) (by omega) (by decide) (v := .int (nI (zk_own ((zr_hd k9 act) * 4 + act)))) rfl dX3_run_49 ?_
    refine lv_istore (lv' := [(8, .int (nI (zk_own ((zr_hd k9 act) * 4 + act)))), (7, .int (zk_abo (zr_hd k9 act))), (6, .int (nI (KD nb))), (5, .int (nI (zr_hd k9 act))), (0, .ref (a 7)), (1, .int (nI k9)), (2, .int (nI act)), (3, .int x), (4, .int (nI dp))]) Z.1 Z.2.1 dX3_run_50 hl (by decide) rfl (fun ls hl => ?_)
    refine lv_iload Z.1 Z.2.1 dX3_run_52 (lv_at hl 8 rfl) ?_
    refine lv_iconst (v := nI 1) Z.1 Z.2.1 dX3_run_54 (by decide +kernel) ?_
    refine zk_iadd Z dX3_run_55 (z := nI (dp + 1)) (nI_add _ _) ?_
    refine lv_istore (lv' := [(9, .int (nI (dp + 1))), (8, .int (nI (zk_own ((zr_hd k9 act) * 4 + act)))), (7, .int (zk_abo (zr_hd k9 act))), (6, .int (nI (KD nb))), (5, .int (nI (zr_hd k9 act))), (0, .ref (a 7)), (1, .int (nI k9)), (2, .int (nI act)), (3, .int x), (4, .int (nI dp))]) Z.1 Z.2.1 dX3_run_56 hl (by decide) rfl (fun ls hl => ?_)
    refine lv_aload_n Z.1 Z.2.1 dX3_run_58 rfl (lv_at hl 5 rfl) ?_
    refine lv_iload Z.1 Z.2.1 dX3_run_59 (lv_at hl 1 rfl) ?_
    refine zk_cv (WF := fun (_ : Unit) => [(a 7, .inr (3, [.int (nI zr), .int (nI (rn + 1)), .ref (a 70), .ref (a 71), .int (nI nb)])), (a 70, .inl (g 0, 24, .inl (fun i => nI ((if rn < 24 then zs_up TR rn (zk_own ((zr_hd k9 act) * 4 + act)) else TR) i)))), (a 71, .inl (g 0, 50, .inl (fun i => nI (KD i))))]) (wr := [(a 71, .inl (g 0, 50, .inl (fun i => nI (KD i))))]) ⟨rfl, rfl⟩ (zk_rv (As := [.int (nI (zk_own ((zr_hd k9 act) * 4 + act)))]) (rest := []) (q0 := 0) (ci := 3) Z ((ct_X3_begin l D g τ a zr rn (nI nb) TR KD (zk_own ((zr_hd k9 act) * 4 + act)) (by have h6 := zr_p1 f; have h7 := zr_p2 f; omega)) H.size) hK hT hA G [0, 1] rfl (by decide) rfl rfl gX3_run_X3_begin rfl dvX3_begin ⟨by first | decide | (simp only [rm_X3_run]; omega), by first | decide | (simp only [rm_X3_run]; omega)⟩ rfl hl.1 rfl (Nat.le_of_ble_eq_true rfl) dX3_run_61 ⟨Nat.zero_le _, Nat.zero_le _⟩) hA G [0, 1] [2] [1, 2, 0] rfl rfl (by decide) (by decide) (by decide) (fun _ => rfl) (fun _ H locs w_61 G => ?_)
    obtain ⟨b, hb⟩ : ∃ b, b = zr_B k9 act := ⟨_, rfl⟩
    have hl : lv_has ls 10 [(9, .int (nI (dp + 1))), (8, .int (nI b)), (7, .int (zk_abo (zr_hd k9 act))), (6, .int (nI (KD nb))), (5, .int (nI (zr_hd k9 act))), (0, .ref (a 7)), (1, .int (nI k9)), (2, .int (nI act)), (3, .int x), (4, .int (nI dp))] := by rw [hb]; exact hl
    have G : zk_G D aA [(a 7, .inr (3, [.int (nI zr), .int (nI ((zr_bg b (rn, TR)).1)), .ref (a 70), .ref (a 71), .int (nI nb)])), (a 70, .inl (g 0, 24, .inl (fun i => nI ((zr_bg b (rn, TR)).2 i)))), (a 71, .inl (g 0, 50, .inl (fun i => nI (KD i))))] sS H locs := (by rw [hb]; exact G)
    refine lv_iload Z.1 Z.2.1 dX3_run_64 (lv_at hl 1 rfl) ?_
    by_cases c66_1 : b = 1
    · subst c66_1
      refine lv_lookup (tgt := 180) Z.1 Z.2.1 dX3_run_66 (by decide) (by rfl) (by decide) ?_
      have ea9 : act = 0 := by have h9 := ha9; rw [← hb] at h9; exact h9
      have k0 : zr_rk 0 = 0 := rfl
      have k1 : zr_rk 1 = 2 := rfl
      have k2 : zr_rk 2 = 1 := rfl
      have k3 : zr_rk 3 = 3 := rfl
      have k9_ : zr_rk act = zr_rk 0 := congrArg zr_rk ea9
      refine lv_iload_n Z.1 Z.2.1 dX3_run_180 rfl (lv_at hl 8 rfl) ?_
      refine lv_aload_n Z.1 Z.2.1 dX3_run_181 rfl (lv_at hl 5 rfl) ?_
      refine zk_get (C := RX3) (T := TX3) (N := 5) (ci := 3) Z hK G hinX3 0 rfl rfl 4 (by decide) (List.mem_of_getElem? (i := 2) rfl) rfl (v := .int (nI nb)) rfl dX3_run_182 ?_
      refine zk_iadd Z dX3_run_185 (z := x + (nI nb)) rfl ?_
      exact zk_reti Z hR_ hlk hK hQ G ((zr_bg 1 (rn, TR)).1, (zr_bg 1 (rn, TR)).2) ⟨(by simp only [zr_run]; rw [← hb]; rfl), (by simp only [zr_run]; rw [← hb]; rfl), (by have h7 := zr_p2 f; have h6 := zr_p1 f; simp only [zr_bg]; omega)⟩ rfl dX3_run_186
    by_cases c66_2 : b = 2
    · subst c66_2
      refine lv_lookup (tgt := 187) Z.1 Z.2.1 dX3_run_66 (by decide) (by rfl) (by decide) ?_
      have ea9 : act = 3 := by have h9 := ha9; rw [← hb] at h9; exact h9
      have k0 : zr_rk 0 = 0 := rfl
      have k1 : zr_rk 1 = 2 := rfl
      have k2 : zr_rk 2 = 1 := rfl
      have k3 : zr_rk 3 = 3 := rfl
      have k9_ : zr_rk act = zr_rk 3 := congrArg zr_rk ea9
      refine lv_aload_n Z.1 Z.2.1 dX3_run_187 rfl (lv_at hl 5 rfl) ?_
      refine lv_iload Z.1 Z.2.1 dX3_run_188 (lv_at hl 3 rfl) ?_
      refine lv_iconst (v := nI 1) Z.1 Z.2.1 dX3_run_190 (by decide +kernel) ?_
      refine lv_iload_n Z.1 Z.2.1 dX3_run_191 rfl (lv_at hl 8 rfl) ?_
      refine lv_iload Z.1 Z.2.1 dX3_run_192 (lv_at hl 0 rfl) ?_
      refine zk_ci (WF := fun uu => [(a 7, .inr (3, [.int (nI zr), .int (nI uu.1), .ref (a 70), .ref (a 71), .int (nI nb)])), (a 70, .inl (g 0, 24, .inl (fun i => nI (uu.2 i)))), (a 71, .inl (g 0, 50, .inl (fun i => nI (KD i))))]) (wr := []) ⟨rfl, rfl⟩ (zk_rv (As := [.int (nI (KD nb)), .int (nI 1), .int x, .int (nI (dp + 1))]) (rest := []) (q0 := 0) (ci := 3) Z ((ih a zr ((zr_bg 2 (rn, TR)).1) nb ((zr_bg 2 (rn, TR)).2) KD (KD nb) 1 x (dp + 1) (by exact hnb) (by exact hown) (by exact hown) (by decide) (by have h9 := zr_lv_in (KD nb) hown; have h8 := zr_lv_in k9 hk; omega) (by omega) (by have h7 := zr_p2 f; have h6 := zr_p1 f; simp only [zr_bg]; omega)) H.size) hK hT hA G [0, 1, 2] rfl (by decide) rfl rfl gX3_run_X3_run rfl dvX3_run ⟨by first | decide | (simp only [rm_X3_run]; omega), by first | decide | (simp only [rm_X3_run]; omega)⟩ rfl hl.1 rfl (Nat.le_of_ble_eq_true rfl) dX3_run_194 ⟨Nat.zero_le _, Nat.zero_le _⟩) hA G [0, 1, 2] [] [0, 1, 2] rfl rfl (by decide) (by decide) (by decide) (fun _ => rfl) (fun r_194 uu H locs w_194 G => ?_)
      obtain ⟨rn1_194, TR1_194⟩ := uu
      have G : zk_G D aA [(a 7, .inr (3, [.int (nI zr), .int (nI rn1_194), .ref (a 70), .ref (a 71), .int (nI nb)])), (a 70, .inl (g 0, 24, .inl (fun i => nI (TR1_194 i)))), (a 71, .inl (g 0, 50, .inl (fun i => nI (KD i))))] sS H locs := G
      obtain ⟨h0_194, w_194⟩ := w_194
      obtain rfl : r_194 = (zr_run (KD nb) (nI nb) f (KD nb) 1 x ((zr_bg 2 (rn, TR)).1, (zr_bg 2 (rn, TR)).2)).1 := h0_194
      have w_194 : (rn1_194, TR1_194) = (zr_run (KD nb) (nI nb) f (KD nb) 1 x ((zr_bg 2 (rn, TR)).1, (zr_bg 2 (rn, TR)).2)).2 ∧ rn1_194 + 1 ≤ ((zr_bg 2 (rn, TR)).1) + 2 ^ f := w_194
      refine lv_aload_n Z.1 Z.2.1 dX3_run_197 rfl (lv_at hl 5 rfl) ?_
      refine lv_iload Z.1 Z.2.1 dX3_run_198 (lv_at hl 3 rfl) ?_
      refine lv_iconst (v := nI 2) Z.1 Z.2.1 dX3_run_200 (by decide +kernel) ?_
      refine lv_iconst (v := nI 1) Z.1 Z.2.1 dX3_run_201 (by decide +kernel) ?_
      refine lv_iload Z.1 Z.2.1 dX3_run_202 (lv_at hl 0 rfl) ?_
      refine zk_ci (WF := fun uu => [(a 7, .inr (3, [.int (nI zr), .int (nI uu.1), .ref (a 70), .ref (a 71), .int (nI nb)])), (a 70, .inl (g 0, 24, .inl (fun i => nI (uu.2 i)))), (a 71, .inl (g 0, 50, .inl (fun i => nI (KD i))))]) (wr := []) ⟨rfl, rfl⟩ (zk_rv (As := [.int (nI (KD nb)), .int (nI 2), .int (nI 1), .int (nI (dp + 1))]) (rest := [.int ((zr_run (KD nb) (nI nb) f (KD nb) 1 x ((zr_bg 2 (rn, TR)).1, (zr_bg 2 (rn, TR)).2)).1)]) (q0 := 0) (ci := 3) Z ((ih a zr rn1_194 nb TR1_194 KD (KD nb) 2 (nI 1) (dp + 1) (by exact hnb) (by exact hown) (by exact hown) (by decide) (by have h9 := zr_lv_in (KD nb) hown; have h8 := zr_lv_in k9 hk; omega) (by omega) (by have h7 := zr_p2 f; have h6 := zr_p1 f; have h5 := w_194.2; simp only [zr_bg] at h5; omega)) H.size) hK hT hA G [0, 1, 2] rfl (by decide) rfl rfl gX3_run_X3_run rfl dvX3_run ⟨by first | decide | (simp only [rm_X3_run]; omega), by first | decide | (simp only [rm_X3_run]; omega)⟩ rfl hl.1 rfl (Nat.le_of_ble_eq_true rfl) dX3_run_204 ⟨Nat.zero_le _, Nat.zero_le _⟩) hA G [0, 1, 2] [] [0, 1, 2] rfl rfl (by decide) (by decide) (by decide) (fun _ => rfl) (fun r_204 uu H locs w_204 G => ?_)
      obtain ⟨rn1_204, TR1_204⟩ := uu
      have G : zk_G D aA [(a 7, .inr (3, [.int (nI zr), .int (nI rn1_204), .ref (a 70), .ref (a 71), .int (nI nb)])), (a 70, .inl (g 0, 24, .inl (fun i => nI (TR1_204 i)))), (a 71, .inl (g 0, 50, .inl (fun i => nI (KD i))))] sS H locs := G
      obtain ⟨h0_204, w_204⟩ := w_204
      obtain rfl : r_204 = (zr_run (KD nb) (nI nb) f (KD nb) 2 (nI 1) (rn1_194, TR1_194)).1 := h0_204
      have w_204 : (rn1_204, TR1_204) = (zr_run (KD nb) (nI nb) f (KD nb) 2 (nI 1) (rn1_194, TR1_194)).2 ∧ rn1_204 + 1 ≤ rn1_194 + 2 ^ f := w_204
      refine zk_isub Z dX3_run_207 (z := ((zr_run (KD nb) (nI nb) f (KD nb) 1 x ((zr_bg 2 (rn, TR)).1, (zr_bg 2 (rn, TR)).2)).1) - ((zr_run (KD nb) (nI nb) f (KD nb) 2 (nI 1) (rn1_194, TR1_194)).1)) rfl ?_
      exact zk_reti Z hR_ hlk hK hQ G (rn1_204, TR1_204) ⟨(by rw [w_194.1]; simp only [zr_run]; rw [← hb]; rfl), (by rw [w_204.1, w_194.1]; simp only [zr_run]; rw [← hb]; rfl), (by have h7 := zr_p2 f; have h6 := zr_p1 f; have h5 := w_194.2; have h4 := w_204.2; simp only [zr_bg] at h5; omega)⟩ rfl dX3_run_208
    by_cases c66_10 : b = 10
    · subst c66_10
      refine lv_lookup (tgt := 209) Z.1 Z.2.1 dX3_run_66 (by decide) (by rfl) (by decide) ?_
      have ea9 : act = 1 := by have h9 := ha9; rw [← hb] at h9; exact h9
      have k0 : zr_rk 0 = 0 := rfl
      have k1 : zr_rk 1 = 2 := rfl
      have k2 : zr_rk 2 = 1 := rfl
      have k3 : zr_rk 3 = 3 := rfl
      have k9_ : zr_rk act = zr_rk 1 := congrArg zr_rk ea9
      refine lv_aload_n Z.1 Z.2.1 dX3_run_209 rfl (lv_at hl 5 rfl) ?_
      refine lv_iload Z.1 Z.2.1 dX3_run_210 (lv_at hl 3 rfl) ?_
      refine lv_iconst (v := nI 0) Z.1 Z.2.1 dX3_run_212 (by decide +kernel) ?_
      refine lv_iload_n Z.1 Z.2.1 dX3_run_213 rfl (lv_at hl 8 rfl) ?_
      refine lv_iload Z.1 Z.2.1 dX3_run_214 (lv_at hl 0 rfl) ?_
      refine zk_ci (WF := fun uu => [(a 7, .inr (3, [.int (nI zr), .int (nI uu.1), .ref (a 70), .ref (a 71), .int (nI nb)])), (a 70, .inl (g 0, 24, .inl (fun i => nI (uu.2 i)))), (a 71, .inl (g 0, 50, .inl (fun i => nI (KD i))))]) (wr := []) ⟨rfl, rfl⟩ (zk_rv (As := [.int (nI (KD nb)), .int (nI 0), .int x, .int (nI (dp + 1))]) (rest := []) (q0 := 0) (ci := 3) Z ((ih a zr ((zr_bg 10 (rn, TR)).1) nb ((zr_bg 10 (rn, TR)).2) KD (KD nb) 0 x (dp + 1) (by exact hnb) (by exact hown) (by exact hown) (by decide) (by have h9 := zr_lv_in (KD nb) hown; have h8 := zr_lv_in k9 hk; omega) (by omega) (by have h7 := zr_p2 f; have h6 := zr_p1 f; simp only [zr_bg]; omega)) H.size) hK hT hA G [0, 1, 2] rfl (by decide) rfl rfl gX3_run_X3_run rfl dvX3_run ⟨by first | decide | (simp only [rm_X3_run]; omega), by first | decide | (simp only [rm_X3_run]; omega)⟩ rfl hl.1 rfl (Nat.le_of_ble_eq_true rfl) dX3_run_216 ⟨Nat.zero_le _, Nat.zero_le _⟩) hA G [0, 1, 2] [] [0, 1, 2] rfl rfl (by decide) (by decide) (by decide) (fun _ => rfl) (fun r_216 uu H locs w_216 G => ?_)
      obtain ⟨rn1_216, TR1_216⟩ := uu
      have G : zk_G D aA [(a 7, .inr (3, [.int (nI zr), .int (nI rn1_216), .ref (a 70), .ref (a 71), .int (nI nb)])), (a 70, .inl (g 0, 24, .inl (fun i => nI (TR1_216 i)))), (a 71, .inl (g 0, 50, .inl (fun i => nI (KD i))))] sS H locs := G
      obtain ⟨h0_216, w_216⟩ := w_216
      obtain rfl : r_216 = (zr_run (KD nb) (nI nb) f (KD nb) 0 x ((zr_bg 10 (rn, TR)).1, (zr_bg 10 (rn, TR)).2)).1 := h0_216
      have w_216 : (rn1_216, TR1_216) = (zr_run (KD nb) (nI nb) f (KD nb) 0 x ((zr_bg 10 (rn, TR)).1, (zr_bg 10 (rn, TR)).2)).2 ∧ rn1_216 + 1 ≤ ((zr_bg 10 (rn, TR)).1) + 2 ^ f := w_216
      refine lv_iconst (v := nI 2) Z.1 Z.2.1 dX3_run_219 (by decide +kernel) ?_
      refine zk_imul Z dX3_run_220 (z := ((zr_run (KD nb) (nI nb) f (KD nb) 0 x ((zr_bg 10 (rn, TR)).1, (zr_bg 10 (rn, TR)).2)).1) * (nI 2)) rfl ?_
      exact zk_reti Z hR_ hlk hK hQ G (rn1_216, TR1_216) ⟨(by simp only [zr_run]; rw [← hb]; rfl), (by rw [w_216.1]; simp only [zr_run]; rw [← hb]; rfl), (by have h7 := zr_p2 f; have h6 := zr_p1 f; have h5 := w_216.2; simp only [zr_bg] at h5; omega)⟩ rfl dX3_run_221
    by_cases c66_11 : b = 11
    · subst c66_11
      refine lv_lookup (tgt := 222) Z.1 Z.2.1 dX3_run_66 (by decide) (by rfl) (by decide) ?_
      have ea9 : act = 2 := by have h9 := ha9; rw [← hb] at h9; exact h9
      have k0 : zr_rk 0 = 0 := rfl
      have k1 : zr_rk 1 = 2 := rfl
      have k2 : zr_rk 2 = 1 := rfl
      have k3 : zr_rk 3 = 3 := rfl
      have k9_ : zr_rk act = zr_rk 2 := congrArg zr_rk ea9
      refine lv_iload_n Z.1 Z.2.1 dX3_run_222 rfl (lv_at hl 8 rfl) ?_
      refine lv_aload_n Z.1 Z.2.1 dX3_run_223 rfl (lv_at hl 5 rfl) ?_
      refine zk_get (C := RX3) (T := TX3) (N := 5) (ci := 3) Z hK G hinX3 0 rfl rfl 4 (by decide) (List.mem_of_getElem? (i := 2) rfl) rfl (v := .int (nI nb)) rfl dX3_run_224 ?_
      refine zk_ixor Z dX3_run_227 (z := x ^^^ (nI nb)) rfl ?_
      exact zk_reti Z hR_ hlk hK hQ G ((zr_bg 11 (rn, TR)).1, (zr_bg 11 (rn, TR)).2) ⟨(by simp only [zr_run]; rw [← hb]; rfl), (by simp only [zr_run]; rw [← hb]; rfl), (by have h7 := zr_p2 f; have h6 := zr_p1 f; simp only [zr_bg]; omega)⟩ rfl dX3_run_228
    by_cases c66_20 : b = 20
    · subst c66_20
      refine lv_lookup (tgt := 229) Z.1 Z.2.1 dX3_run_66 (by decide) (by rfl) (by decide) ?_
      have ea9 : act = 0 := by have h9 := ha9; rw [← hb] at h9; exact h9
      have k0 : zr_rk 0 = 0 := rfl
      have k1 : zr_rk 1 = 2 := rfl
      have k2 : zr_rk 2 = 1 := rfl
      have k3 : zr_rk 3 = 3 := rfl
      have k9_ : zr_rk act = zr_rk 0 := congrArg zr_rk ea9
      obtain ⟨eu1, eu2⟩ := zr_up k9 hk act hact (by omega)
      have hl : lv_has ls 10 [(9, .int (nI (dp + 1))), (8, .int (nI 20)), (7, .int (nI (zr_ab k9 act))), (6, .int (nI (KD nb))), (5, .int (nI (zr_hd k9 act))), (0, .ref (a 7)), (1, .int (nI k9)), (2, .int (nI act)), (3, .int x), (4, .int (nI dp))] := by rw [← eu1]; exact hl
      refine lv_aload_n Z.1 Z.2.1 dX3_run_229 rfl (lv_at hl 5 rfl) ?_
      refine lv_iload Z.1 Z.2.1 dX3_run_230 (lv_at hl 2 rfl) ?_
      refine lv_iconst (v := nI 0) Z.1 Z.2.1 dX3_run_232 (by decide +kernel) ?_
      refine lv_iload_n Z.1 Z.2.1 dX3_run_233 rfl (lv_at hl 8 rfl) ?_
      refine lv_iload Z.1 Z.2.1 dX3_run_234 (lv_at hl 0 rfl) ?_
      refine zk_ci (WF := fun uu => [(a 7, .inr (3, [.int (nI zr), .int (nI uu.1), .ref (a 70), .ref (a 71), .int (nI nb)])), (a 70, .inl (g 0, 24, .inl (fun i => nI (uu.2 i)))), (a 71, .inl (g 0, 50, .inl (fun i => nI (KD i))))]) (wr := []) ⟨rfl, rfl⟩ (zk_rv (As := [.int (nI (zr_ab k9 act)), .int (nI 0), .int x, .int (nI (dp + 1))]) (rest := []) (q0 := 0) (ci := 3) Z ((ih a zr ((zr_bg 20 (rn, TR)).1) nb ((zr_bg 20 (rn, TR)).2) KD (zr_ab k9 act) 0 x (dp + 1) (by exact hnb) (by exact hown) (by exact hh8) (by decide) (by have h9 := zr_lv_in (KD nb) hown; have h8 := zr_lv_in k9 hk; omega) (by omega) (by have h7 := zr_p2 f; have h6 := zr_p1 f; simp only [zr_bg]; omega)) H.size) hK hT hA G [0, 1, 2] rfl (by decide) rfl rfl gX3_run_X3_run rfl dvX3_run ⟨by first | decide | (simp only [rm_X3_run]; omega), by first | decide | (simp only [rm_X3_run]; omega)⟩ rfl hl.1 rfl (Nat.le_of_ble_eq_true rfl) dX3_run_236 ⟨Nat.zero_le _, Nat.zero_le _⟩) hA G [0, 1, 2] [] [0, 1, 2] rfl rfl (by decide) (by decide) (by decide) (fun _ => rfl) (fun r_236 uu H locs w_236 G => ?_)
      obtain ⟨rn1_236, TR1_236⟩ := uu
      have G : zk_G D aA [(a 7, .inr (3, [.int (nI zr), .int (nI rn1_236), .ref (a 70), .ref (a 71), .int (nI nb)])), (a 70, .inl (g 0, 24, .inl (fun i => nI (TR1_236 i)))), (a 71, .inl (g 0, 50, .inl (fun i => nI (KD i))))] sS H locs := G
      obtain ⟨h0_236, w_236⟩ := w_236
      obtain rfl : r_236 = (zr_run (KD nb) (nI nb) f (zr_ab k9 act) 0 x ((zr_bg 20 (rn, TR)).1, (zr_bg 20 (rn, TR)).2)).1 := h0_236
      have w_236 : (rn1_236, TR1_236) = (zr_run (KD nb) (nI nb) f (zr_ab k9 act) 0 x ((zr_bg 20 (rn, TR)).1, (zr_bg 20 (rn, TR)).2)).2 ∧ rn1_236 + 1 ≤ ((zr_bg 20 (rn, TR)).1) + 2 ^ f := w_236
      refine lv_iconst (v := nI 3) Z.1 Z.2.1 dX3_run_239 (by decide +kernel) ?_
      refine zk_iadd Z dX3_run_240 (z := ((zr_run (KD nb) (nI nb) f (zr_ab k9 act) 0 x ((zr_bg 20 (rn, TR)).1, (zr_bg 20 (rn, TR)).2)).1) + (nI 3)) rfl ?_
      exact zk_reti Z hR_ hlk hK hQ G (rn1_236, TR1_236) ⟨(by simp only [zr_run]; rw [← hb]; rfl), (by rw [w_236.1]; simp only [zr_run]; rw [← hb]; rfl), (by have h7 := zr_p2 f; have h6 := zr_p1 f; have h5 := w_236.2; simp only [zr_bg] at h5; omega)⟩ rfl dX3_run_241
    by_cases c66_30 : b = 30
    · subst c66_30
      refine lv_lookup (tgt := 242) Z.1 Z.2.1 dX3_run_66 (by decide) (by rfl) (by decide) ?_
      have ea9 : act = 1 := by have h9 := ha9; rw [← hb] at h9; exact h9
      have k0 : zr_rk 0 = 0 := rfl
      have k1 : zr_rk 1 = 2 := rfl
      have k2 : zr_rk 2 = 1 := rfl
      have k3 : zr_rk 3 = 3 := rfl
      have k9_ : zr_rk act = zr_rk 1 := congrArg zr_rk ea9
      obtain ⟨eu1, eu2⟩ := zr_up k9 hk act hact (by omega)
      have hl : lv_has ls 10 [(9, .int (nI (dp + 1))), (8, .int (nI 30)), (7, .int (nI (zr_ab k9 act))), (6, .int (nI (KD nb))), (5, .int (nI (zr_hd k9 act))), (0, .ref (a 7)), (1, .int (nI k9)), (2, .int (nI act)), (3, .int x), (4, .int (nI dp))] := by rw [← eu1]; exact hl
      refine lv_aload_n Z.1 Z.2.1 dX3_run_242 rfl (lv_at hl 5 rfl) ?_
      refine lv_iload Z.1 Z.2.1 dX3_run_243 (lv_at hl 2 rfl) ?_
      refine lv_iconst (v := nI 1) Z.1 Z.2.1 dX3_run_245 (by decide +kernel) ?_
      refine lv_iload_n Z.1 Z.2.1 dX3_run_246 rfl (lv_at hl 8 rfl) ?_
      refine lv_iload Z.1 Z.2.1 dX3_run_247 (lv_at hl 0 rfl) ?_
      refine zk_ci (WF := fun uu => [(a 7, .inr (3, [.int (nI zr), .int (nI uu.1), .ref (a 70), .ref (a 71), .int (nI nb)])), (a 70, .inl (g 0, 24, .inl (fun i => nI (uu.2 i)))), (a 71, .inl (g 0, 50, .inl (fun i => nI (KD i))))]) (wr := []) ⟨rfl, rfl⟩ (zk_rv (As := [.int (nI (zr_ab k9 act)), .int (nI 1), .int x, .int (nI (dp + 1))]) (rest := []) (q0 := 0) (ci := 3) Z ((ih a zr ((zr_bg 30 (rn, TR)).1) nb ((zr_bg 30 (rn, TR)).2) KD (zr_ab k9 act) 1 x (dp + 1) (by exact hnb) (by exact hown) (by exact hh8) (by decide) (by have h9 := zr_lv_in (KD nb) hown; have h8 := zr_lv_in k9 hk; omega) (by omega) (by have h7 := zr_p2 f; have h6 := zr_p1 f; simp only [zr_bg]; omega)) H.size) hK hT hA G [0, 1, 2] rfl (by decide) rfl rfl gX3_run_X3_run rfl dvX3_run ⟨by first | decide | (simp only [rm_X3_run]; omega), by first | decide | (simp only [rm_X3_run]; omega)⟩ rfl hl.1 rfl (Nat.le_of_ble_eq_true rfl) dX3_run_249 ⟨Nat.zero_le _, Nat.zero_le _⟩) hA G [0, 1, 2] [] [0, 1, 2] rfl rfl (by decide) (by decide) (by decide) (fun _ => rfl) (fun r_249 uu H locs w_249 G => ?_)
      obtain ⟨rn1_249, TR1_249⟩ := uu
      have G : zk_G D aA [(a 7, .inr (3, [.int (nI zr), .int (nI rn1_249), .ref (a 70), .ref (a 71), .int (nI nb)])), (a 70, .inl (g 0, 24, .inl (fun i => nI (TR1_249 i)))), (a 71, .inl (g 0, 50, .inl (fun i => nI (KD i))))] sS H locs := G
      obtain ⟨h0_249, w_249⟩ := w_249
      obtain rfl : r_249 = (zr_run (KD nb) (nI nb) f (zr_ab k9 act) 1 x ((zr_bg 30 (rn, TR)).1, (zr_bg 30 (rn, TR)).2)).1 := h0_249
      have w_249 : (rn1_249, TR1_249) = (zr_run (KD nb) (nI nb) f (zr_ab k9 act) 1 x ((zr_bg 30 (rn, TR)).1, (zr_bg 30 (rn, TR)).2)).2 ∧ rn1_249 + 1 ≤ ((zr_bg 30 (rn, TR)).1) + 2 ^ f := w_249
      refine zk_ineg Z dX3_run_252 (z := 0 - ((zr_run (KD nb) (nI nb) f (zr_ab k9 act) 1 x ((zr_bg 30 (rn, TR)).1, (zr_bg 30 (rn, TR)).2)).1)) rfl ?_
      exact zk_reti Z hR_ hlk hK hQ G (rn1_249, TR1_249) ⟨(by simp only [zr_run]; rw [← hb]; rfl), (by rw [w_249.1]; simp only [zr_run]; rw [← hb]; rfl), (by have h7 := zr_p2 f; have h6 := zr_p1 f; have h5 := w_249.2; simp only [zr_bg] at h5; omega)⟩ rfl dX3_run_253
    by_cases c66_40 : b = 40
    · subst c66_40
      refine lv_lookup (tgt := 254) Z.1 Z.2.1 dX3_run_66 (by decide) (by rfl) (by decide) ?_
      have ea9 : act = 2 := by have h9 := ha9; rw [← hb] at h9; exact h9
      have k0 : zr_rk 0 = 0 := rfl
      have k1 : zr_rk 1 = 2 := rfl
      have k2 : zr_rk 2 = 1 := rfl
      have k3 : zr_rk 3 = 3 := rfl
      have k9_ : zr_rk act = zr_rk 2 := congrArg zr_rk ea9
      obtain ⟨eu1, eu2⟩ := zr_up k9 hk act hact (by omega)
      have hl : lv_has ls 10 [(9, .int (nI (dp + 1))), (8, .int (nI 40)), (7, .int (nI (zr_ab k9 act))), (6, .int (nI (KD nb))), (5, .int (nI (zr_hd k9 act))), (0, .ref (a 7)), (1, .int (nI k9)), (2, .int (nI act)), (3, .int x), (4, .int (nI dp))] := by rw [← eu1]; exact hl
      refine lv_aload_n Z.1 Z.2.1 dX3_run_254 rfl (lv_at hl 5 rfl) ?_
      refine lv_iload Z.1 Z.2.1 dX3_run_255 (lv_at hl 2 rfl) ?_
      refine lv_iconst (v := nI 2) Z.1 Z.2.1 dX3_run_257 (by decide +kernel) ?_
      refine lv_iload_n Z.1 Z.2.1 dX3_run_258 rfl (lv_at hl 8 rfl) ?_
      refine lv_iload Z.1 Z.2.1 dX3_run_259 (lv_at hl 0 rfl) ?_
      refine zk_ci (WF := fun uu => [(a 7, .inr (3, [.int (nI zr), .int (nI uu.1), .ref (a 70), .ref (a 71), .int (nI nb)])), (a 70, .inl (g 0, 24, .inl (fun i => nI (uu.2 i)))), (a 71, .inl (g 0, 50, .inl (fun i => nI (KD i))))]) (wr := []) ⟨rfl, rfl⟩ (zk_rv (As := [.int (nI (zr_ab k9 act)), .int (nI 2), .int x, .int (nI (dp + 1))]) (rest := []) (q0 := 0) (ci := 3) Z ((ih a zr ((zr_bg 40 (rn, TR)).1) nb ((zr_bg 40 (rn, TR)).2) KD (zr_ab k9 act) 2 x (dp + 1) (by exact hnb) (by exact hown) (by exact hh8) (by decide) (by have h9 := zr_lv_in (KD nb) hown; have h8 := zr_lv_in k9 hk; omega) (by omega) (by have h7 := zr_p2 f; have h6 := zr_p1 f; simp only [zr_bg]; omega)) H.size) hK hT hA G [0, 1, 2] rfl (by decide) rfl rfl gX3_run_X3_run rfl dvX3_run ⟨by first | decide | (simp only [rm_X3_run]; omega), by first | decide | (simp only [rm_X3_run]; omega)⟩ rfl hl.1 rfl (Nat.le_of_ble_eq_true rfl) dX3_run_261 ⟨Nat.zero_le _, Nat.zero_le _⟩) hA G [0, 1, 2] [] [0, 1, 2] rfl rfl (by decide) (by decide) (by decide) (fun _ => rfl) (fun r_261 uu H locs w_261 G => ?_)
      obtain ⟨rn1_261, TR1_261⟩ := uu
      have G : zk_G D aA [(a 7, .inr (3, [.int (nI zr), .int (nI rn1_261), .ref (a 70), .ref (a 71), .int (nI nb)])), (a 70, .inl (g 0, 24, .inl (fun i => nI (TR1_261 i)))), (a 71, .inl (g 0, 50, .inl (fun i => nI (KD i))))] sS H locs := G
      obtain ⟨h0_261, w_261⟩ := w_261
      obtain rfl : r_261 = (zr_run (KD nb) (nI nb) f (zr_ab k9 act) 2 x ((zr_bg 40 (rn, TR)).1, (zr_bg 40 (rn, TR)).2)).1 := h0_261
      have w_261 : (rn1_261, TR1_261) = (zr_run (KD nb) (nI nb) f (zr_ab k9 act) 2 x ((zr_bg 40 (rn, TR)).1, (zr_bg 40 (rn, TR)).2)).2 ∧ rn1_261 + 1 ≤ ((zr_bg 40 (rn, TR)).1) + 2 ^ f := w_261
      refine lv_iconst (v := nI 3) Z.1 Z.2.1 dX3_run_264 (by decide +kernel) ?_
      refine zk_imul Z dX3_run_265 (z := ((zr_run (KD nb) (nI nb) f (zr_ab k9 act) 2 x ((zr_bg 40 (rn, TR)).1, (zr_bg 40 (rn, TR)).2)).1) * (nI 3)) rfl ?_
      exact zk_reti Z hR_ hlk hK hQ G (rn1_261, TR1_261) ⟨(by simp only [zr_run]; rw [← hb]; rfl), (by rw [w_261.1]; simp only [zr_run]; rw [← hb]; rfl), (by have h7 := zr_p2 f; have h6 := zr_p1 f; have h5 := w_261.2; simp only [zr_bg] at h5; omega)⟩ rfl dX3_run_266
    by_cases c66_41 : b = 41
    · subst c66_41
      refine lv_lookup (tgt := 267) Z.1 Z.2.1 dX3_run_66 (by decide) (by rfl) (by decide) ?_
      have ea9 : act = 1 := by have h9 := ha9; rw [← hb] at h9; exact h9
      have k0 : zr_rk 0 = 0 := rfl
      have k1 : zr_rk 1 = 2 := rfl
      have k2 : zr_rk 2 = 1 := rfl
      have k3 : zr_rk 3 = 3 := rfl
      have k9_ : zr_rk act = zr_rk 1 := congrArg zr_rk ea9
      obtain ⟨eu1, eu2⟩ := zr_up k9 hk act hact (by omega)
      have hl : lv_has ls 10 [(9, .int (nI (dp + 1))), (8, .int (nI 41)), (7, .int (nI (zr_ab k9 act))), (6, .int (nI (KD nb))), (5, .int (nI (zr_hd k9 act))), (0, .ref (a 7)), (1, .int (nI k9)), (2, .int (nI act)), (3, .int x), (4, .int (nI dp))] := by rw [← eu1]; exact hl
      refine lv_aload_n Z.1 Z.2.1 dX3_run_267 rfl (lv_at hl 5 rfl) ?_
      refine lv_iload Z.1 Z.2.1 dX3_run_268 (lv_at hl 2 rfl) ?_
      refine lv_iconst (v := nI 1) Z.1 Z.2.1 dX3_run_270 (by decide +kernel) ?_
      refine lv_iload_n Z.1 Z.2.1 dX3_run_271 rfl (lv_at hl 8 rfl) ?_
      refine lv_iconst (v := nI 1) Z.1 Z.2.1 dX3_run_272 (by decide +kernel) ?_
      refine zk_iadd Z dX3_run_273 (z := x + (nI 1)) rfl ?_
      refine lv_iload Z.1 Z.2.1 dX3_run_274 (lv_at hl 0 rfl) ?_
      refine zk_ci (WF := fun uu => [(a 7, .inr (3, [.int (nI zr), .int (nI uu.1), .ref (a 70), .ref (a 71), .int (nI nb)])), (a 70, .inl (g 0, 24, .inl (fun i => nI (uu.2 i)))), (a 71, .inl (g 0, 50, .inl (fun i => nI (KD i))))]) (wr := []) ⟨rfl, rfl⟩ (zk_rv (As := [.int (nI (zr_ab k9 act)), .int (nI 1), .int (x + (nI 1)), .int (nI (dp + 1))]) (rest := []) (q0 := 0) (ci := 3) Z ((ih a zr ((zr_bg 41 (rn, TR)).1) nb ((zr_bg 41 (rn, TR)).2) KD (zr_ab k9 act) 1 (x + (nI 1)) (dp + 1) (by exact hnb) (by exact hown) (by exact hh8) (by decide) (by have h9 := zr_lv_in (KD nb) hown; have h8 := zr_lv_in k9 hk; omega) (by omega) (by have h7 := zr_p2 f; have h6 := zr_p1 f; simp only [zr_bg]; omega)) H.size) hK hT hA G [0, 1, 2] rfl (by decide) rfl rfl gX3_run_X3_run rfl dvX3_run ⟨by first | decide | (simp only [rm_X3_run]; omega), by first | decide | (simp only [rm_X3_run]; omega)⟩ rfl hl.1 rfl (Nat.le_of_ble_eq_true rfl) dX3_run_276 ⟨Nat.zero_le _, Nat.zero_le _⟩) hA G [0, 1, 2] [] [0, 1, 2] rfl rfl (by decide) (by decide) (by decide) (fun _ => rfl) (fun r_276 uu H locs w_276 G => ?_)
      obtain ⟨rn1_276, TR1_276⟩ := uu
      have G : zk_G D aA [(a 7, .inr (3, [.int (nI zr), .int (nI rn1_276), .ref (a 70), .ref (a 71), .int (nI nb)])), (a 70, .inl (g 0, 24, .inl (fun i => nI (TR1_276 i)))), (a 71, .inl (g 0, 50, .inl (fun i => nI (KD i))))] sS H locs := G
      obtain ⟨h0_276, w_276⟩ := w_276
      obtain rfl : r_276 = (zr_run (KD nb) (nI nb) f (zr_ab k9 act) 1 (x + (nI 1)) ((zr_bg 41 (rn, TR)).1, (zr_bg 41 (rn, TR)).2)).1 := h0_276
      have w_276 : (rn1_276, TR1_276) = (zr_run (KD nb) (nI nb) f (zr_ab k9 act) 1 (x + (nI 1)) ((zr_bg 41 (rn, TR)).1, (zr_bg 41 (rn, TR)).2)).2 ∧ rn1_276 + 1 ≤ ((zr_bg 41 (rn, TR)).1) + 2 ^ f := w_276
      exact zk_reti Z hR_ hlk hK hQ G (rn1_276, TR1_276) ⟨(by simp only [zr_run]; rw [← hb]; rfl), (by rw [w_276.1]; simp only [zr_run]; rw [← hb]; rfl), (by have h7 := zr_p2 f; have h6 := zr_p1 f; have h5 := w_276.2; simp only [zr_bg] at h5; omega)⟩ rfl dX3_run_279
    by_cases c66_50 : b = 50
    · subst c66_50
      refine lv_lookup (tgt := 280) Z.1 Z.2.1 dX3_run_66 (by decide) (by rfl) (by decide) ?_
      have ea9 : act = 2 := by have h9 := ha9; rw [← hb] at h9; exact h9
      have k0 : zr_rk 0 = 0 := rfl
      have k1 : zr_rk 1 = 2 := rfl
      have k2 : zr_rk 2 = 1 := rfl
      have k3 : zr_rk 3 = 3 := rfl
      have k9_ : zr_rk act = zr_rk 2 := congrArg zr_rk ea9
      obtain ⟨eu1, eu2⟩ := zr_up k9 hk act hact (by omega)
      have hl : lv_has ls 10 [(9, .int (nI (dp + 1))), (8, .int (nI 50)), (7, .int (nI (zr_ab k9 act))), (6, .int (nI (KD nb))), (5, .int (nI (zr_hd k9 act))), (0, .ref (a 7)), (1, .int (nI k9)), (2, .int (nI act)), (3, .int x), (4, .int (nI dp))] := by rw [← eu1]; exact hl
      refine lv_aload_n Z.1 Z.2.1 dX3_run_280 rfl (lv_at hl 5 rfl) ?_
      refine lv_iload Z.1 Z.2.1 dX3_run_281 (lv_at hl 2 rfl) ?_
      refine lv_iconst (v := nI 2) Z.1 Z.2.1 dX3_run_283 (by decide +kernel) ?_
      refine lv_iload_n Z.1 Z.2.1 dX3_run_284 rfl (lv_at hl 8 rfl) ?_
      refine lv_iload Z.1 Z.2.1 dX3_run_285 (lv_at hl 0 rfl) ?_
      refine zk_ci (WF := fun uu => [(a 7, .inr (3, [.int (nI zr), .int (nI uu.1), .ref (a 70), .ref (a 71), .int (nI nb)])), (a 70, .inl (g 0, 24, .inl (fun i => nI (uu.2 i)))), (a 71, .inl (g 0, 50, .inl (fun i => nI (KD i))))]) (wr := []) ⟨rfl, rfl⟩ (zk_rv (As := [.int (nI (zr_ab k9 act)), .int (nI 2), .int x, .int (nI (dp + 1))]) (rest := []) (q0 := 0) (ci := 3) Z ((ih a zr ((zr_bg 50 (rn, TR)).1) nb ((zr_bg 50 (rn, TR)).2) KD (zr_ab k9 act) 2 x (dp + 1) (by exact hnb) (by exact hown) (by exact hh8) (by decide) (by have h9 := zr_lv_in (KD nb) hown; have h8 := zr_lv_in k9 hk; omega) (by omega) (by have h7 := zr_p2 f; have h6 := zr_p1 f; simp only [zr_bg]; omega)) H.size) hK hT hA G [0, 1, 2] rfl (by decide) rfl rfl gX3_run_X3_run rfl dvX3_run ⟨by first | decide | (simp only [rm_X3_run]; omega), by first | decide | (simp only [rm_X3_run]; omega)⟩ rfl hl.1 rfl (Nat.le_of_ble_eq_true rfl) dX3_run_287 ⟨Nat.zero_le _, Nat.zero_le _⟩) hA G [0, 1, 2] [] [0, 1, 2] rfl rfl (by decide) (by decide) (by decide) (fun _ => rfl) (fun r_287 uu H locs w_287 G => ?_)
      obtain ⟨rn1_287, TR1_287⟩ := uu
      have G : zk_G D aA [(a 7, .inr (3, [.int (nI zr), .int (nI rn1_287), .ref (a 70), .ref (a 71), .int (nI nb)])), (a 70, .inl (g 0, 24, .inl (fun i => nI (TR1_287 i)))), (a 71, .inl (g 0, 50, .inl (fun i => nI (KD i))))] sS H locs := G
      obtain ⟨h0_287, w_287⟩ := w_287
      obtain rfl : r_287 = (zr_run (KD nb) (nI nb) f (zr_ab k9 act) 2 x ((zr_bg 50 (rn, TR)).1, (zr_bg 50 (rn, TR)).2)).1 := h0_287
      have w_287 : (rn1_287, TR1_287) = (zr_run (KD nb) (nI nb) f (zr_ab k9 act) 2 x ((zr_bg 50 (rn, TR)).1, (zr_bg 50 (rn, TR)).2)).2 ∧ rn1_287 + 1 ≤ ((zr_bg 50 (rn, TR)).1) + 2 ^ f := w_287
      refine lv_aload_n Z.1 Z.2.1 dX3_run_290 rfl (lv_at hl 5 rfl) ?_
      refine lv_iload Z.1 Z.2.1 dX3_run_291 (lv_at hl 3 rfl) ?_
      refine lv_iconst (v := nI 0) Z.1 Z.2.1 dX3_run_293 (by decide +kernel) ?_
      refine lv_iconst (v := nI 2) Z.1 Z.2.1 dX3_run_294 (by decide +kernel) ?_
      refine lv_iload Z.1 Z.2.1 dX3_run_295 (lv_at hl 0 rfl) ?_
      refine zk_ci (WF := fun uu => [(a 7, .inr (3, [.int (nI zr), .int (nI uu.1), .ref (a 70), .ref (a 71), .int (nI nb)])), (a 70, .inl (g 0, 24, .inl (fun i => nI (uu.2 i)))), (a 71, .inl (g 0, 50, .inl (fun i => nI (KD i))))]) (wr := []) ⟨rfl, rfl⟩ (zk_rv (As := [.int (nI (KD nb)), .int (nI 0), .int (nI 2), .int (nI (dp + 1))]) (rest := [.int ((zr_run (KD nb) (nI nb) f (zr_ab k9 act) 2 x ((zr_bg 50 (rn, TR)).1, (zr_bg 50 (rn, TR)).2)).1)]) (q0 := 0) (ci := 3) Z ((ih a zr rn1_287 nb TR1_287 KD (KD nb) 0 (nI 2) (dp + 1) (by exact hnb) (by exact hown) (by exact hown) (by decide) (by have h9 := zr_lv_in (KD nb) hown; have h8 := zr_lv_in k9 hk; omega) (by omega) (by have h7 := zr_p2 f; have h6 := zr_p1 f; have h5 := w_287.2; simp only [zr_bg] at h5; omega)) H.size) hK hT hA G [0, 1, 2] rfl (by decide) rfl rfl gX3_run_X3_run rfl dvX3_run ⟨by first | decide | (simp only [rm_X3_run]; omega), by first | decide | (simp only [rm_X3_run]; omega)⟩ rfl hl.1 rfl (Nat.le_of_ble_eq_true rfl) dX3_run_297 ⟨Nat.zero_le _, Nat.zero_le _⟩) hA G [0, 1, 2] [] [0, 1, 2] rfl rfl (by decide) (by decide) (by decide) (fun _ => rfl) (fun r_297 uu H locs w_297 G => ?_)
      obtain ⟨rn1_297, TR1_297⟩ := uu
      have G : zk_G D aA [(a 7, .inr (3, [.int (nI zr), .int (nI rn1_297), .ref (a 70), .ref (a 71), .int (nI nb)])), (a 70, .inl (g 0, 24, .inl (fun i => nI (TR1_297 i)))), (a 71, .inl (g 0, 50, .inl (fun i => nI (KD i))))] sS H locs := G
      obtain ⟨h0_297, w_297⟩ := w_297
      obtain rfl : r_297 = (zr_run (KD nb) (nI nb) f (KD nb) 0 (nI 2) (rn1_287, TR1_287)).1 := h0_297
      have w_297 : (rn1_297, TR1_297) = (zr_run (KD nb) (nI nb) f (KD nb) 0 (nI 2) (rn1_287, TR1_287)).2 ∧ rn1_297 + 1 ≤ rn1_287 + 2 ^ f := w_297
      refine zk_isub Z dX3_run_300 (z := ((zr_run (KD nb) (nI nb) f (zr_ab k9 act) 2 x ((zr_bg 50 (rn, TR)).1, (zr_bg 50 (rn, TR)).2)).1) - ((zr_run (KD nb) (nI nb) f (KD nb) 0 (nI 2) (rn1_287, TR1_287)).1)) rfl ?_
      exact zk_reti Z hR_ hlk hK hQ G (rn1_297, TR1_297) ⟨(by rw [w_287.1]; simp only [zr_run]; rw [← hb]; rfl), (by rw [w_297.1, w_287.1]; simp only [zr_run]; rw [← hb]; rfl), (by have h7 := zr_p2 f; have h6 := zr_p1 f; have h5 := w_287.2; have h4 := w_297.2; simp only [zr_bg] at h5; omega)⟩ rfl dX3_run_301
    by_cases c66_60 : b = 60
    · subst c66_60
      refine lv_lookup (tgt := 302) Z.1 Z.2.1 dX3_run_66 (by decide) (by rfl) (by decide) ?_
      have ea9 : act = 3 := by have h9 := ha9; rw [← hb] at h9; exact h9
      have k0 : zr_rk 0 = 0 := rfl
      have k1 : zr_rk 1 = 2 := rfl
      have k2 : zr_rk 2 = 1 := rfl
      have k3 : zr_rk 3 = 3 := rfl
      have k9_ : zr_rk act = zr_rk 3 := congrArg zr_rk ea9
      obtain ⟨eu1, eu2⟩ := zr_up k9 hk act hact (by omega)
      have hl : lv_has ls 10 [(9, .int (nI (dp + 1))), (8, .int (nI 60)), (7, .int (nI (zr_ab k9 act))), (6, .int (nI (KD nb))), (5, .int (nI (zr_hd k9 act))), (0, .ref (a 7)), (1, .int (nI k9)), (2, .int (nI act)), (3, .int x), (4, .int (nI dp))] := by rw [← eu1]; exact hl
      refine lv_aload_n Z.1 Z.2.1 dX3_run_302 rfl (lv_at hl 5 rfl) ?_
      refine lv_iload Z.1 Z.2.1 dX3_run_303 (lv_at hl 2 rfl) ?_
      refine lv_iconst (v := nI 3) Z.1 Z.2.1 dX3_run_305 (by decide +kernel) ?_
      refine lv_iload_n Z.1 Z.2.1 dX3_run_306 rfl (lv_at hl 8 rfl) ?_
      refine lv_iload Z.1 Z.2.1 dX3_run_307 (lv_at hl 0 rfl) ?_
      refine zk_ci (WF := fun uu => [(a 7, .inr (3, [.int (nI zr), .int (nI uu.1), .ref (a 70), .ref (a 71), .int (nI nb)])), (a 70, .inl (g 0, 24, .inl (fun i => nI (uu.2 i)))), (a 71, .inl (g 0, 50, .inl (fun i => nI (KD i))))]) (wr := []) ⟨rfl, rfl⟩ (zk_rv (As := [.int (nI (zr_ab k9 act)), .int (nI 3), .int x, .int (nI (dp + 1))]) (rest := []) (q0 := 0) (ci := 3) Z ((ih a zr ((zr_bg 60 (rn, TR)).1) nb ((zr_bg 60 (rn, TR)).2) KD (zr_ab k9 act) 3 x (dp + 1) (by exact hnb) (by exact hown) (by exact hh8) (by decide) (by have h9 := zr_lv_in (KD nb) hown; have h8 := zr_lv_in k9 hk; omega) (by omega) (by have h7 := zr_p2 f; have h6 := zr_p1 f; simp only [zr_bg]; omega)) H.size) hK hT hA G [0, 1, 2] rfl (by decide) rfl rfl gX3_run_X3_run rfl dvX3_run ⟨by first | decide | (simp only [rm_X3_run]; omega), by first | decide | (simp only [rm_X3_run]; omega)⟩ rfl hl.1 rfl (Nat.le_of_ble_eq_true rfl) dX3_run_309 ⟨Nat.zero_le _, Nat.zero_le _⟩) hA G [0, 1, 2] [] [0, 1, 2] rfl rfl (by decide) (by decide) (by decide) (fun _ => rfl) (fun r_309 uu H locs w_309 G => ?_)
      obtain ⟨rn1_309, TR1_309⟩ := uu
      have G : zk_G D aA [(a 7, .inr (3, [.int (nI zr), .int (nI rn1_309), .ref (a 70), .ref (a 71), .int (nI nb)])), (a 70, .inl (g 0, 24, .inl (fun i => nI (TR1_309 i)))), (a 71, .inl (g 0, 50, .inl (fun i => nI (KD i))))] sS H locs := G
      obtain ⟨h0_309, w_309⟩ := w_309
      obtain rfl : r_309 = (zr_run (KD nb) (nI nb) f (zr_ab k9 act) 3 x ((zr_bg 60 (rn, TR)).1, (zr_bg 60 (rn, TR)).2)).1 := h0_309
      have w_309 : (rn1_309, TR1_309) = (zr_run (KD nb) (nI nb) f (zr_ab k9 act) 3 x ((zr_bg 60 (rn, TR)).1, (zr_bg 60 (rn, TR)).2)).2 ∧ rn1_309 + 1 ≤ ((zr_bg 60 (rn, TR)).1) + 2 ^ f := w_309
      refine lv_iconst (v := nI 5) Z.1 Z.2.1 dX3_run_312 (by decide +kernel) ?_
      refine zk_ixor Z dX3_run_313 (z := ((zr_run (KD nb) (nI nb) f (zr_ab k9 act) 3 x ((zr_bg 60 (rn, TR)).1, (zr_bg 60 (rn, TR)).2)).1) ^^^ (nI 5)) rfl ?_
      exact zk_reti Z hR_ hlk hK hQ G (rn1_309, TR1_309) ⟨(by simp only [zr_run]; rw [← hb]; rfl), (by rw [w_309.1]; simp only [zr_run]; rw [← hb]; rfl), (by have h7 := zr_p2 f; have h6 := zr_p1 f; have h5 := w_309.2; simp only [zr_bg] at h5; omega)⟩ rfl dX3_run_314
    by_cases c66_70 : b = 70
    · subst c66_70
      refine lv_lookup (tgt := 315) Z.1 Z.2.1 dX3_run_66 (by decide) (by rfl) (by decide) ?_
      have ea9 : act = 0 := by have h9 := ha9; rw [← hb] at h9; exact h9
      have k0 : zr_rk 0 = 0 := rfl
      have k1 : zr_rk 1 = 2 := rfl
      have k2 : zr_rk 2 = 1 := rfl
      have k3 : zr_rk 3 = 3 := rfl
      have k9_ : zr_rk act = zr_rk 0 := congrArg zr_rk ea9
      obtain ⟨eu1, eu2⟩ := zr_up k9 hk act hact (by omega)
      have hl : lv_has ls 10 [(9, .int (nI (dp + 1))), (8, .int (nI 70)), (7, .int (nI (zr_ab k9 act))), (6, .int (nI (KD nb))), (5, .int (nI (zr_hd k9 act))), (0, .ref (a 7)), (1, .int (nI k9)), (2, .int (nI act)), (3, .int x), (4, .int (nI dp))] := by rw [← eu1]; exact hl
      refine lv_aload_n Z.1 Z.2.1 dX3_run_315 rfl (lv_at hl 5 rfl) ?_
      refine lv_iload Z.1 Z.2.1 dX3_run_316 (lv_at hl 2 rfl) ?_
      refine lv_iconst (v := nI 0) Z.1 Z.2.1 dX3_run_318 (by decide +kernel) ?_
      refine lv_iload_n Z.1 Z.2.1 dX3_run_319 rfl (lv_at hl 8 rfl) ?_
      refine lv_iload Z.1 Z.2.1 dX3_run_320 (lv_at hl 0 rfl) ?_
      refine zk_ci (WF := fun uu => [(a 7, .inr (3, [.int (nI zr), .int (nI uu.1), .ref (a 70), .ref (a 71), .int (nI nb)])), (a 70, .inl (g 0, 24, .inl (fun i => nI (uu.2 i)))), (a 71, .inl (g 0, 50, .inl (fun i => nI (KD i))))]) (wr := []) ⟨rfl, rfl⟩ (zk_rv (As := [.int (nI (zr_ab k9 act)), .int (nI 0), .int x, .int (nI (dp + 1))]) (rest := []) (q0 := 0) (ci := 3) Z ((ih a zr ((zr_bg 70 (rn, TR)).1) nb ((zr_bg 70 (rn, TR)).2) KD (zr_ab k9 act) 0 x (dp + 1) (by exact hnb) (by exact hown) (by exact hh8) (by decide) (by have h9 := zr_lv_in (KD nb) hown; have h8 := zr_lv_in k9 hk; omega) (by omega) (by have h7 := zr_p2 f; have h6 := zr_p1 f; simp only [zr_bg]; omega)) H.size) hK hT hA G [0, 1, 2] rfl (by decide) rfl rfl gX3_run_X3_run rfl dvX3_run ⟨by first | decide | (simp only [rm_X3_run]; omega), by first | decide | (simp only [rm_X3_run]; omega)⟩ rfl hl.1 rfl (Nat.le_of_ble_eq_true rfl) dX3_run_322 ⟨Nat.zero_le _, Nat.zero_le _⟩) hA G [0, 1, 2] [] [0, 1, 2] rfl rfl (by decide) (by decide) (by decide) (fun _ => rfl) (fun r_322 uu H locs w_322 G => ?_)
      obtain ⟨rn1_322, TR1_322⟩ := uu
      have G : zk_G D aA [(a 7, .inr (3, [.int (nI zr), .int (nI rn1_322), .ref (a 70), .ref (a 71), .int (nI nb)])), (a 70, .inl (g 0, 24, .inl (fun i => nI (TR1_322 i)))), (a 71, .inl (g 0, 50, .inl (fun i => nI (KD i))))] sS H locs := G
      obtain ⟨h0_322, w_322⟩ := w_322
      obtain rfl : r_322 = (zr_run (KD nb) (nI nb) f (zr_ab k9 act) 0 x ((zr_bg 70 (rn, TR)).1, (zr_bg 70 (rn, TR)).2)).1 := h0_322
      have w_322 : (rn1_322, TR1_322) = (zr_run (KD nb) (nI nb) f (zr_ab k9 act) 0 x ((zr_bg 70 (rn, TR)).1, (zr_bg 70 (rn, TR)).2)).2 ∧ rn1_322 + 1 ≤ ((zr_bg 70 (rn, TR)).1) + 2 ^ f := w_322
      refine lv_iconst (v := nI 2) Z.1 Z.2.1 dX3_run_325 (by decide +kernel) ?_
      refine zk_imul Z dX3_run_326 (z := ((zr_run (KD nb) (nI nb) f (zr_ab k9 act) 0 x ((zr_bg 70 (rn, TR)).1, (zr_bg 70 (rn, TR)).2)).1) * (nI 2)) rfl ?_
      exact zk_reti Z hR_ hlk hK hQ G (rn1_322, TR1_322) ⟨(by simp only [zr_run]; rw [← hb]; rfl), (by rw [w_322.1]; simp only [zr_run]; rw [← hb]; rfl), (by have h7 := zr_p2 f; have h6 := zr_p1 f; have h5 := w_322.2; simp only [zr_bg] at h5; omega)⟩ rfl dX3_run_327
    by_cases c66_80 : b = 80
    · subst c66_80
      refine lv_lookup (tgt := 328) Z.1 Z.2.1 dX3_run_66 (by decide) (by rfl) (by decide) ?_
      have ea9 : act = 1 := by have h9 := ha9; rw [← hb] at h9; exact h9
      have k0 : zr_rk 0 = 0 := rfl
      have k1 : zr_rk 1 = 2 := rfl
      have k2 : zr_rk 2 = 1 := rfl
      have k3 : zr_rk 3 = 3 := rfl
      have k9_ : zr_rk act = zr_rk 1 := congrArg zr_rk ea9
      obtain ⟨eu1, eu2⟩ := zr_up k9 hk act hact (by omega)
      have hl : lv_has ls 10 [(9, .int (nI (dp + 1))), (8, .int (nI 80)), (7, .int (nI (zr_ab k9 act))), (6, .int (nI (KD nb))), (5, .int (nI (zr_hd k9 act))), (0, .ref (a 7)), (1, .int (nI k9)), (2, .int (nI act)), (3, .int x), (4, .int (nI dp))] := by rw [← eu1]; exact hl
      refine lv_aload_n Z.1 Z.2.1 dX3_run_328 rfl (lv_at hl 5 rfl) ?_
      refine lv_iload Z.1 Z.2.1 dX3_run_329 (lv_at hl 2 rfl) ?_
      refine lv_iconst (v := nI 1) Z.1 Z.2.1 dX3_run_331 (by decide +kernel) ?_
      refine lv_iload_n Z.1 Z.2.1 dX3_run_332 rfl (lv_at hl 8 rfl) ?_
      refine lv_iload Z.1 Z.2.1 dX3_run_333 (lv_at hl 0 rfl) ?_
      refine zk_ci (WF := fun uu => [(a 7, .inr (3, [.int (nI zr), .int (nI uu.1), .ref (a 70), .ref (a 71), .int (nI nb)])), (a 70, .inl (g 0, 24, .inl (fun i => nI (uu.2 i)))), (a 71, .inl (g 0, 50, .inl (fun i => nI (KD i))))]) (wr := []) ⟨rfl, rfl⟩ (zk_rv (As := [.int (nI (zr_ab k9 act)), .int (nI 1), .int x, .int (nI (dp + 1))]) (rest := []) (q0 := 0) (ci := 3) Z ((ih a zr ((zr_bg 80 (rn, TR)).1) nb ((zr_bg 80 (rn, TR)).2) KD (zr_ab k9 act) 1 x (dp + 1) (by exact hnb) (by exact hown) (by exact hh8) (by decide) (by have h9 := zr_lv_in (KD nb) hown; have h8 := zr_lv_in k9 hk; omega) (by omega) (by have h7 := zr_p2 f; have h6 := zr_p1 f; simp only [zr_bg]; omega)) H.size) hK hT hA G [0, 1, 2] rfl (by decide) rfl rfl gX3_run_X3_run rfl dvX3_run ⟨by first | decide | (simp only [rm_X3_run]; omega), by first | decide | (simp only [rm_X3_run]; omega)⟩ rfl hl.1 rfl (Nat.le_of_ble_eq_true rfl) dX3_run_335 ⟨Nat.zero_le _, Nat.zero_le _⟩) hA G [0, 1, 2] [] [0, 1, 2] rfl rfl (by decide) (by decide) (by decide) (fun _ => rfl) (fun r_335 uu H locs w_335 G => ?_)
      obtain ⟨rn1_335, TR1_335⟩ := uu
      have G : zk_G D aA [(a 7, .inr (3, [.int (nI zr), .int (nI rn1_335), .ref (a 70), .ref (a 71), .int (nI nb)])), (a 70, .inl (g 0, 24, .inl (fun i => nI (TR1_335 i)))), (a 71, .inl (g 0, 50, .inl (fun i => nI (KD i))))] sS H locs := G
      obtain ⟨h0_335, w_335⟩ := w_335
      obtain rfl : r_335 = (zr_run (KD nb) (nI nb) f (zr_ab k9 act) 1 x ((zr_bg 80 (rn, TR)).1, (zr_bg 80 (rn, TR)).2)).1 := h0_335
      have w_335 : (rn1_335, TR1_335) = (zr_run (KD nb) (nI nb) f (zr_ab k9 act) 1 x ((zr_bg 80 (rn, TR)).1, (zr_bg 80 (rn, TR)).2)).2 ∧ rn1_335 + 1 ≤ ((zr_bg 80 (rn, TR)).1) + 2 ^ f := w_335
      refine lv_aload_n Z.1 Z.2.1 dX3_run_338 rfl (lv_at hl 5 rfl) ?_
      refine lv_iload Z.1 Z.2.1 dX3_run_339 (lv_at hl 3 rfl) ?_
      refine lv_iconst (v := nI 2) Z.1 Z.2.1 dX3_run_341 (by decide +kernel) ?_
      refine lv_iconst (v := nI 2) Z.1 Z.2.1 dX3_run_342 (by decide +kernel) ?_
      refine lv_iload Z.1 Z.2.1 dX3_run_343 (lv_at hl 0 rfl) ?_
      refine zk_ci (WF := fun uu => [(a 7, .inr (3, [.int (nI zr), .int (nI uu.1), .ref (a 70), .ref (a 71), .int (nI nb)])), (a 70, .inl (g 0, 24, .inl (fun i => nI (uu.2 i)))), (a 71, .inl (g 0, 50, .inl (fun i => nI (KD i))))]) (wr := []) ⟨rfl, rfl⟩ (zk_rv (As := [.int (nI (KD nb)), .int (nI 2), .int (nI 2), .int (nI (dp + 1))]) (rest := [.int ((zr_run (KD nb) (nI nb) f (zr_ab k9 act) 1 x ((zr_bg 80 (rn, TR)).1, (zr_bg 80 (rn, TR)).2)).1)]) (q0 := 0) (ci := 3) Z ((ih a zr rn1_335 nb TR1_335 KD (KD nb) 2 (nI 2) (dp + 1) (by exact hnb) (by exact hown) (by exact hown) (by decide) (by have h9 := zr_lv_in (KD nb) hown; have h8 := zr_lv_in k9 hk; omega) (by omega) (by have h7 := zr_p2 f; have h6 := zr_p1 f; have h5 := w_335.2; simp only [zr_bg] at h5; omega)) H.size) hK hT hA G [0, 1, 2] rfl (by decide) rfl rfl gX3_run_X3_run rfl dvX3_run ⟨by first | decide | (simp only [rm_X3_run]; omega), by first | decide | (simp only [rm_X3_run]; omega)⟩ rfl hl.1 rfl (Nat.le_of_ble_eq_true rfl) dX3_run_345 ⟨Nat.zero_le _, Nat.zero_le _⟩) hA G [0, 1, 2] [] [0, 1, 2] rfl rfl (by decide) (by decide) (by decide) (fun _ => rfl) (fun r_345 uu H locs w_345 G => ?_)
      obtain ⟨rn1_345, TR1_345⟩ := uu
      have G : zk_G D aA [(a 7, .inr (3, [.int (nI zr), .int (nI rn1_345), .ref (a 70), .ref (a 71), .int (nI nb)])), (a 70, .inl (g 0, 24, .inl (fun i => nI (TR1_345 i)))), (a 71, .inl (g 0, 50, .inl (fun i => nI (KD i))))] sS H locs := G
      obtain ⟨h0_345, w_345⟩ := w_345
      obtain rfl : r_345 = (zr_run (KD nb) (nI nb) f (KD nb) 2 (nI 2) (rn1_335, TR1_335)).1 := h0_345
      have w_345 : (rn1_345, TR1_345) = (zr_run (KD nb) (nI nb) f (KD nb) 2 (nI 2) (rn1_335, TR1_335)).2 ∧ rn1_345 + 1 ≤ rn1_335 + 2 ^ f := w_345
      refine zk_iadd Z dX3_run_348 (z := ((zr_run (KD nb) (nI nb) f (zr_ab k9 act) 1 x ((zr_bg 80 (rn, TR)).1, (zr_bg 80 (rn, TR)).2)).1) + ((zr_run (KD nb) (nI nb) f (KD nb) 2 (nI 2) (rn1_335, TR1_335)).1)) rfl ?_
      exact zk_reti Z hR_ hlk hK hQ G (rn1_345, TR1_345) ⟨(by rw [w_335.1]; simp only [zr_run]; rw [← hb]; rfl), (by rw [w_345.1, w_335.1]; simp only [zr_run]; rw [← hb]; rfl), (by have h7 := zr_p2 f; have h6 := zr_p1 f; have h5 := w_335.2; have h4 := w_345.2; simp only [zr_bg] at h5; omega)⟩ rfl dX3_run_349
    by_cases c66_81 : b = 81
    · subst c66_81
      refine lv_lookup (tgt := 350) Z.1 Z.2.1 dX3_run_66 (by decide) (by rfl) (by decide) ?_
      have ea9 : act = 3 := by have h9 := ha9; rw [← hb] at h9; exact h9
      have k0 : zr_rk 0 = 0 := rfl
      have k1 : zr_rk 1 = 2 := rfl
      have k2 : zr_rk 2 = 1 := rfl
      have k3 : zr_rk 3 = 3 := rfl
      have k9_ : zr_rk act = zr_rk 3 := congrArg zr_rk ea9
      obtain ⟨eu1, eu2⟩ := zr_up k9 hk act hact (by omega)
      have hl : lv_has ls 10 [(9, .int (nI (dp + 1))), (8, .int (nI 81)), (7, .int (nI (zr_ab k9 act))), (6, .int (nI (KD nb))), (5, .int (nI (zr_hd k9 act))), (0, .ref (a 7)), (1, .int (nI k9)), (2, .int (nI act)), (3, .int x), (4, .int (nI dp))] := by rw [← eu1]; exact hl
      refine lv_aload_n Z.1 Z.2.1 dX3_run_350 rfl (lv_at hl 5 rfl) ?_
      refine lv_iload Z.1 Z.2.1 dX3_run_351 (lv_at hl 2 rfl) ?_
      refine lv_iconst (v := nI 3) Z.1 Z.2.1 dX3_run_353 (by decide +kernel) ?_
      refine lv_iload_n Z.1 Z.2.1 dX3_run_354 rfl (lv_at hl 8 rfl) ?_
      refine lv_iload Z.1 Z.2.1 dX3_run_355 (lv_at hl 0 rfl) ?_
      refine zk_ci (WF := fun uu => [(a 7, .inr (3, [.int (nI zr), .int (nI uu.1), .ref (a 70), .ref (a 71), .int (nI nb)])), (a 70, .inl (g 0, 24, .inl (fun i => nI (uu.2 i)))), (a 71, .inl (g 0, 50, .inl (fun i => nI (KD i))))]) (wr := []) ⟨rfl, rfl⟩ (zk_rv (As := [.int (nI (zr_ab k9 act)), .int (nI 3), .int x, .int (nI (dp + 1))]) (rest := []) (q0 := 0) (ci := 3) Z ((ih a zr ((zr_bg 81 (rn, TR)).1) nb ((zr_bg 81 (rn, TR)).2) KD (zr_ab k9 act) 3 x (dp + 1) (by exact hnb) (by exact hown) (by exact hh8) (by decide) (by have h9 := zr_lv_in (KD nb) hown; have h8 := zr_lv_in k9 hk; omega) (by omega) (by have h7 := zr_p2 f; have h6 := zr_p1 f; simp only [zr_bg]; omega)) H.size) hK hT hA G [0, 1, 2] rfl (by decide) rfl rfl gX3_run_X3_run rfl dvX3_run ⟨by first | decide | (simp only [rm_X3_run]; omega), by first | decide | (simp only [rm_X3_run]; omega)⟩ rfl hl.1 rfl (Nat.le_of_ble_eq_true rfl) dX3_run_357 ⟨Nat.zero_le _, Nat.zero_le _⟩) hA G [0, 1, 2] [] [0, 1, 2] rfl rfl (by decide) (by decide) (by decide) (fun _ => rfl) (fun r_357 uu H locs w_357 G => ?_)
      obtain ⟨rn1_357, TR1_357⟩ := uu
      have G : zk_G D aA [(a 7, .inr (3, [.int (nI zr), .int (nI rn1_357), .ref (a 70), .ref (a 71), .int (nI nb)])), (a 70, .inl (g 0, 24, .inl (fun i => nI (TR1_357 i)))), (a 71, .inl (g 0, 50, .inl (fun i => nI (KD i))))] sS H locs := G
      obtain ⟨h0_357, w_357⟩ := w_357
      obtain rfl : r_357 = (zr_run (KD nb) (nI nb) f (zr_ab k9 act) 3 x ((zr_bg 81 (rn, TR)).1, (zr_bg 81 (rn, TR)).2)).1 := h0_357
      have w_357 : (rn1_357, TR1_357) = (zr_run (KD nb) (nI nb) f (zr_ab k9 act) 3 x ((zr_bg 81 (rn, TR)).1, (zr_bg 81 (rn, TR)).2)).2 ∧ rn1_357 + 1 ≤ ((zr_bg 81 (rn, TR)).1) + 2 ^ f := w_357
      refine lv_iconst (v := nI 1) Z.1 Z.2.1 dX3_run_360 (by decide +kernel) ?_
      refine zk_isub Z dX3_run_361 (z := ((zr_run (KD nb) (nI nb) f (zr_ab k9 act) 3 x ((zr_bg 81 (rn, TR)).1, (zr_bg 81 (rn, TR)).2)).1) - (nI 1)) rfl ?_
      exact zk_reti Z hR_ hlk hK hQ G (rn1_357, TR1_357) ⟨(by simp only [zr_run]; rw [← hb]; rfl), (by rw [w_357.1]; simp only [zr_run]; rw [← hb]; rfl), (by have h7 := zr_p2 f; have h6 := zr_p1 f; have h5 := w_357.2; simp only [zr_bg] at h5; omega)⟩ rfl dX3_run_362
    exfalso
    have h9 := zr_B_in k9 hk act hact; omega
  exfalso
  have c16 : 40 < dp := zk_nle (by omega) (by omega) c16
  omega

theorem zr_allR (l : Launch) (D : va_G) (g : Nat → ClassId) (τ : Nat → Nat) : ∀ f, zr_MR l D g τ f
  | 0 => fun a zr rn nb TR KD k9 act x dp h1 h2 hk h4 hM _ _ => by exfalso; have := zr_lv_in k9 hk; omega
  | f + 1 => ct_X3_run_s l D g τ f (zr_allR l D g τ f)
def zr_perf (zr : Nat) (KD : Nat → Nat) (TR : Nat → Nat) (y ac x : Int32) : Int32 × zr_T := if (zb_w zr y && zb_w 4 ac) = true then zr_run (KD y.toInt.toNat) (nI y.toInt.toNat) 19 (KD y.toInt.toNat) ac.toInt.toNat x (0, TR) else (0, (0, TR))

abbrev rm_X3_perform : Room := { frames := 24, cells := 0, slots := 0, locals := 1319 }
theorem dvX3_perform : zk_dv yX3_perform RX3 3 := by decide +kernel
set_option maxRecDepth 100000 in
set_option maxHeartbeats 1500000 in
theorem ct_X3_perform (l : Launch) (D : va_G) (g : Nat → ClassId) (τ : Nat → Nat) (a : Nat → Nat) (zr : Nat) (rn : Nat) (nb : Int32) (TR : Nat → Nat) (KD : Nat → Nat) (y : Int32) (ac : Int32) (x : Int32) (hz : zr ≤ 50) (hkd : ∀ i, i < zr → KD i < 8) : zk_MI l D g τ yX3_perform wsX3_perform rm_X3_perform [.ref (a 7), .int y, .int ac, .int x] [(a 7, .inr (3, [.int (nI zr), .int (nI rn), .ref (a 70), .ref (a 71), .int nb])), (a 70, .inl (g 0, 24, .inl (fun i => nI (TR i)))), (a 71, .inl (g 0, 50, .inl (fun i => nI (KD i))))] (fun (r : Int32) (uu : Nat × (Nat → Nat) × Int32) => (r = (zr_perf zr KD TR y ac x).1) ∧ ((uu.1, uu.2.1) = (zr_perf zr KD TR y ac x).2 ∧ uu.1 ≤ 2 ^ 19)) (fun (uu : Nat × (Nat → Nat) × Int32) => [(a 7, .inr (3, [.int (nI zr), .int (nI uu.1), .ref (a 70), .ref (a 71), .int uu.2.2])), (a 70, .inl (g 0, 24, .inl (fun i => nI (uu.2.1 i)))), (a 71, .inl (g 0, 50, .inl (fun i => nI (KD i))))]) := by
  refine zk_of (Qc := fun A => va_Qi (fun (r : Int32) (uu : Nat × (Nat → Nat) × Int32) => (r = (zr_perf zr KD TR y ac x).1) ∧ ((uu.1, uu.2.1) = (zr_perf zr KD TR y ac x).2 ∧ uu.1 ≤ 2 ^ 19)) (zk_B D g A (fun (uu : Nat × (Nat → Nat) × Int32) => [(a 7, .inr (3, [.int (nI zr), .int (nI uu.1), .ref (a 70), .ref (a 71), .int uu.2.2])), (a 70, .inl (g 0, 24, .inl (fun i => nI (uu.2.1 i)))), (a 71, .inl (g 0, 50, .inl (fun i => nI (KD i))))])) A) (cc := cX3_perform) (maxL := 4) (ret := (some .int)) (own := RX3) (by decide) rfl rfl (Nat.le_of_ble_eq_true rfl) ?_
  intro pP eE sS mM args below meth cC aA ls qQ Z hR_ hlk hnm hK hT hA hQ G hl
  have hinX3 : ∀ w ∈ u_ws RX3 TX3 5, w ∈ wsX3_perform := (fun _ h => List.mem_cons_of_mem _ (List.mem_append_right _ h))
  refine lv_aload_n Z.1 Z.2.1 dX3_perform_0 rfl (lv_at hl 0 rfl) ?_
  refine lv_iconst (v := nI 0) Z.1 Z.2.1 dX3_perform_1 (by decide +kernel) ?_
  refine zk_put tyX3 tyX3_ok nmX3 (C := RX3) (T := TX3) (N := 5) (ci := 3) Z hK G hinX3 0 rfl rfl 1 (by decide) (List.mem_of_getElem? (i := 1) rfl) rfl rfl rfl rfl (Nat.le_of_ble_eq_true rfl) (ws' := [(a 7, .inr (3, [.int (nI zr), .int (nI 0), .ref (a 70), .ref (a 71), .int nb])), (a 70, .inl (g 0, 24, .inl (fun i => nI (TR i)))), (a 71, .inl (g 0, 50, .inl (fun i => nI (KD i))))]) rfl dX3_perform_2 (fun H locs G => ?_)
  refine lv_iload_n Z.1 Z.2.1 dX3_perform_5 rfl (lv_at hl 1 rfl) ?_
  refine lv_if_lt (tgt := 26) Z.1 Z.2.1 dX3_perform_6 (by decide) (fun c6 => ?_) (fun c6 => ?_)
  · have c6 : y < 0 := c6
    refine lv_iconst (v := nI 0) Z.1 Z.2.1 dX3_perform_26 (by decide +kernel) ?_
    have hk9 : (zb_w zr y && zb_w 4 ac) = false := by rw [zb_w_neg c6]; rfl
    exact zk_reti Z hR_ hlk hK hQ G (0, TR, nb) ⟨(by unfold zr_perf; rw [hk9]; rfl), (by unfold zr_perf; rw [hk9]; rfl), Nat.zero_le _⟩ rfl dX3_perform_27
  have c6 : ¬ y < 0 := c6
  obtain ⟨j, hj, rfl⟩ := nI_of c6
  refine lv_iload_n Z.1 Z.2.1 dX3_perform_9 rfl (lv_at hl 1 rfl) ?_
  refine lv_aload_n Z.1 Z.2.1 dX3_perform_10 rfl (lv_at hl 0 rfl) ?_
  refine zk_get (C := RX3) (T := TX3) (N := 5) (ci := 3) Z hK G hinX3 0 rfl rfl 0 (by decide) (List.mem_of_getElem? (i := 2) rfl) rfl (v := .int (nI zr)) rfl dX3_perform_11 ?_
  refine lv_icmp_ge (tgt := 26) Z.1 Z.2.1 dX3_perform_14 (by decide) (fun c14 => ?_) (fun c14 => ?_)
  · have c14 : zr ≤ j := zk_le (by omega) (by omega) c14
    refine lv_iconst (v := nI 0) Z.1 Z.2.1 dX3_perform_26 (by decide +kernel) ?_
    have hk9 : (zb_w zr (nI j) && zb_w 4 ac) = false := by rw [zb_w_n hj, decide_eq_false (Nat.not_lt.mpr c14)]; rfl
    exact zk_reti Z hR_ hlk hK hQ G (0, TR, nb) ⟨(by unfold zr_perf; rw [hk9]; rfl), (by unfold zr_perf; rw [hk9]; rfl), Nat.zero_le _⟩ rfl dX3_perform_27
  have c14 : j < zr := zk_nle (by omega) (by omega) c14
  refine lv_iload_n Z.1 Z.2.1 dX3_perform_17 rfl (lv_at hl 2 rfl) ?_
  refine lv_if_lt (tgt := 26) Z.1 Z.2.1 dX3_perform_18 (by decide) (fun c18 => ?_) (fun c18 => ?_)
  · have c18 : ac < 0 := c18
    refine lv_iconst (v := nI 0) Z.1 Z.2.1 dX3_perform_26 (by decide +kernel) ?_
    have hk9 : (zb_w zr (nI j) && zb_w 4 ac) = false := by rw [zb_w_neg c18, Bool.and_false]
    exact zk_reti Z hR_ hlk hK hQ G (0, TR, nb) ⟨(by unfold zr_perf; rw [hk9]; rfl), (by unfold zr_perf; rw [hk9]; rfl), Nat.zero_le _⟩ rfl dX3_perform_27
  have c18 : ¬ ac < 0 := c18
  obtain ⟨ac9, hac, rfl⟩ := nI_of c18
  refine lv_iload_n Z.1 Z.2.1 dX3_perform_21 rfl (lv_at hl 2 rfl) ?_
  refine lv_iconst (v := nI 4) Z.1 Z.2.1 dX3_perform_22 (by decide +kernel) ?_
  refine lv_icmp_lt (tgt := 28) Z.1 Z.2.1 dX3_perform_23 (by decide) (fun c23 => ?_) (fun c23 => ?_)
  · have c23 : ac9 < 4 := zk_lt (by omega) (by omega) c23
    have hk9 : (zb_w zr (nI j) && zb_w 4 (nI ac9)) = true := by rw [zb_w_n hj, zb_w_n hac, decide_eq_true c14, decide_eq_true c23]; rfl
    have hkj := hkd j c14
    refine lv_aload_n Z.1 Z.2.1 dX3_perform_28 rfl (lv_at hl 0 rfl) ?_
    refine lv_iload_n Z.1 Z.2.1 dX3_perform_29 rfl (lv_at hl 1 rfl) ?_
    refine zk_put tyX3 tyX3_ok nmX3 (C := RX3) (T := TX3) (N := 5) (ci := 3) Z hK G hinX3 0 rfl rfl 4 (by decide) (List.mem_of_getElem? (i := 3) rfl) rfl rfl rfl rfl (Nat.le_of_ble_eq_true rfl) (ws' := [(a 7, .inr (3, [.int (nI zr), .int (nI 0), .ref (a 70), .ref (a 71), .int (nI j)])), (a 70, .inl (g 0, 24, .inl (fun i => nI (TR i)))), (a 71, .inl (g 0, 50, .inl (fun i => nI (KD i))))]) rfl dX3_perform_30 (fun H locs G => ?_)
    refine lv_aload_n Z.1 Z.2.1 dX3_perform_33 rfl (lv_at hl 0 rfl) ?_
    refine lv_aload_n Z.1 Z.2.1 dX3_perform_34 rfl (lv_at hl 0 rfl) ?_
    refine zk_get (C := RX3) (T := TX3) (N := 5) (ci := 3) Z hK G hinX3 0 rfl rfl 3 (by decide) (List.mem_of_getElem? (i := 4) rfl) rfl (v := .ref (a 71)) rfl dX3_perform_35 ?_
    refine lv_iload_n Z.1 Z.2.1 dX3_perform_38 rfl (lv_at hl 1 rfl) ?_
    refine zk_iald Z hK G 2 rfl (k := j) (by omega) (by decide) (v := nI (KD j)) rfl dX3_perform_39 ?_
    refine lv_iload_n Z.1 Z.2.1 dX3_perform_40 rfl (lv_at hl 2 rfl) ?_
    refine lv_iload_n Z.1 Z.2.1 dX3_perform_41 rfl (lv_at hl 3 rfl) ?_
    refine lv_iconst (v := nI 0) Z.1 Z.2.1 dX3_perform_42 (by decide +kernel) ?_
    refine zk_ci (WF := fun uu => [(a 7, .inr (3, [.int (nI zr), .int (nI uu.1), .ref (a 70), .ref (a 71), .int (nI j)])), (a 70, .inl (g 0, 24, .inl (fun i => nI (uu.2 i)))), (a 71, .inl (g 0, 50, .inl (fun i => nI (KD i))))]) (wr := []) ⟨rfl, rfl⟩ (zk_rv (As := [.int (nI (KD j)), .int (nI ac9), .int x, .int (nI 0)]) (rest := []) (q0 := 0) (ci := 3) Z (((zr_allR l D g τ 19) a zr 0 j TR KD (KD j) ac9 x 0 (by omega) (by exact hkj) (by exact hkj) (by exact c23) (by exact (zr_hd_e _ hkj _ c23).2.2.2) (by decide) (by decide)) H.size) hK hT hA G [0, 1, 2] rfl (by decide) rfl rfl gX3_perform_X3_run rfl dvX3_run ⟨by decide, by decide⟩ rfl hl.1 rfl (Nat.le_of_ble_eq_true rfl) dX3_perform_43 ⟨Nat.zero_le _, Nat.zero_le _⟩) hA G [0, 1, 2] [] [0, 1, 2] rfl rfl (by decide) (by decide) (by decide) (fun _ => rfl) (fun r_43 uu H locs w_43 G => ?_)
    obtain ⟨rn1_43, TR1_43⟩ := uu
    have G : zk_G D aA [(a 7, .inr (3, [.int (nI zr), .int (nI rn1_43), .ref (a 70), .ref (a 71), .int (nI j)])), (a 70, .inl (g 0, 24, .inl (fun i => nI (TR1_43 i)))), (a 71, .inl (g 0, 50, .inl (fun i => nI (KD i))))] sS H locs := G
    obtain ⟨h0_43, w_43⟩ := w_43
    obtain rfl : r_43 = (zr_run (KD j) (nI j) 19 (KD j) ac9 x (0, TR)).1 := h0_43
    have w_43 : (rn1_43, TR1_43) = (zr_run (KD j) (nI j) 19 (KD j) ac9 x (0, TR)).2 ∧ rn1_43 + 1 ≤ 0 + 2 ^ 19 := w_43
    exact zk_reti Z hR_ hlk hK hQ G (rn1_43, TR1_43, nI j) ⟨(by unfold zr_perf; rw [hk9, zb_nat hj, zb_nat (by omega)]; rfl), (by unfold zr_perf; rw [hk9, zb_nat hj, zb_nat (by omega)]; exact w_43.1), (by have h9 := w_43.2; omega)⟩ rfl dX3_perform_46
  have c23 : 4 ≤ ac9 := zk_nlt (by omega) (by omega) c23
  refine lv_iconst (v := nI 0) Z.1 Z.2.1 dX3_perform_26 (by decide +kernel) ?_
  have hk9 : (zb_w zr (nI j) && zb_w 4 (nI ac9)) = false := by rw [zb_w_n hac, decide_eq_false (Nat.not_lt.mpr c23), Bool.and_false]
  exact zk_reti Z hR_ hlk hK hQ G (0, TR, nb) ⟨(by unfold zr_perf; rw [hk9]; rfl), (by unfold zr_perf; rw [hk9]; rfl), Nat.zero_le _⟩ rfl dX3_perform_27

abbrev rm_X7_act : Room := { frames := 25, cells := 0, slots := 0, locals := 1342 }
theorem dvX7_act : zk_dv yX7_act RX7 3 := by decide +kernel
set_option maxRecDepth 100000 in
set_option maxHeartbeats 1500000 in
theorem ct_X7_act (l : Launch) (D : va_G) (g : Nat → ClassId) (τ : Nat → Nat) (a : Nat → Nat) (pic : Bool) (storm : Nat) (chance : Int32) (zr : Nat) (rn : Nat) (nb : Int32) (TR : Nat → Nat) (KD : Nat → Nat) (y : Int32) (ac : Int32) (x : Int32) (hz : zr ≤ 50) (hkd : ∀ i, i < zr → KD i < 8) : zk_MI l D g τ yX7_act wsX7_act rm_X7_act [.ref (a 0), .int y, .int ac, .int x] [(a 0, .inr (7, [.ref (a 1), .ref (a 2), .ref (a 3), .ref (a 4), .ref (a 50), .ref (a 60), .ref (a 7), .ref (a 8), .int (zk_b pic), .int (nI storm), .int chance])), (a 7, .inr (3, [.int (nI zr), .int (nI rn), .ref (a 70), .ref (a 71), .int nb])), (a 70, .inl (g 0, 24, .inl (fun i => nI (TR i)))), (a 71, .inl (g 0, 50, .inl (fun i => nI (KD i))))] (fun (r : Int32) (uu : Nat × (Nat → Nat) × Int32) => (r = (zr_perf zr KD TR y ac x).1) ∧ ((uu.1, uu.2.1) = (zr_perf zr KD TR y ac x).2 ∧ uu.1 ≤ 2 ^ 19)) (fun (uu : Nat × (Nat → Nat) × Int32) => [(a 0, .inr (7, [.ref (a 1), .ref (a 2), .ref (a 3), .ref (a 4), .ref (a 50), .ref (a 60), .ref (a 7), .ref (a 8), .int (zk_b pic), .int (nI storm), .int chance])), (a 7, .inr (3, [.int (nI zr), .int (nI uu.1), .ref (a 70), .ref (a 71), .int uu.2.2])), (a 70, .inl (g 0, 24, .inl (fun i => nI (uu.2.1 i)))), (a 71, .inl (g 0, 50, .inl (fun i => nI (KD i))))]) := by
  refine zk_of (Qc := fun A => va_Qi (fun (r : Int32) (uu : Nat × (Nat → Nat) × Int32) => (r = (zr_perf zr KD TR y ac x).1) ∧ ((uu.1, uu.2.1) = (zr_perf zr KD TR y ac x).2 ∧ uu.1 ≤ 2 ^ 19)) (zk_B D g A (fun (uu : Nat × (Nat → Nat) × Int32) => [(a 0, .inr (7, [.ref (a 1), .ref (a 2), .ref (a 3), .ref (a 4), .ref (a 50), .ref (a 60), .ref (a 7), .ref (a 8), .int (zk_b pic), .int (nI storm), .int chance])), (a 7, .inr (3, [.int (nI zr), .int (nI uu.1), .ref (a 70), .ref (a 71), .int uu.2.2])), (a 70, .inl (g 0, 24, .inl (fun i => nI (uu.2.1 i)))), (a 71, .inl (g 0, 50, .inl (fun i => nI (KD i))))])) A) (cc := cX7_act) (maxL := 4) (ret := (some .int)) (own := RX7) (by decide) rfl rfl (Nat.le_of_ble_eq_true rfl) ?_
  intro pP eE sS mM args below meth cC aA ls qQ Z hR_ hlk hnm hK hT hA hQ G hl
  have hinX7 : ∀ w ∈ u_ws RX7 TX7 11, w ∈ wsX7_act := (fun _ h => List.mem_cons_of_mem _ (List.mem_append_left _ (List.mem_append_right _ h)))
  refine lv_aload_n Z.1 Z.2.1 dX7_act_0 rfl (lv_at hl 0 rfl) ?_
  refine zk_get (C := RX7) (T := TX7) (N := 11) (ci := 7) Z hK G hinX7 0 rfl rfl 6 (by decide) (List.mem_of_getElem? (i := 1) rfl) rfl (v := .ref (a 7)) rfl dX7_act_1 ?_
  refine lv_iload_n Z.1 Z.2.1 dX7_act_4 rfl (lv_at hl 1 rfl) ?_
  refine lv_iload_n Z.1 Z.2.1 dX7_act_5 rfl (lv_at hl 2 rfl) ?_
  refine lv_iload_n Z.1 Z.2.1 dX7_act_6 rfl (lv_at hl 3 rfl) ?_
  refine zk_ci (WF := fun uu => [(a 0, .inr (7, [.ref (a 1), .ref (a 2), .ref (a 3), .ref (a 4), .ref (a 50), .ref (a 60), .ref (a 7), .ref (a 8), .int (zk_b pic), .int (nI storm), .int chance])), (a 7, .inr (3, [.int (nI zr), .int (nI uu.1), .ref (a 70), .ref (a 71), .int uu.2.2])), (a 70, .inl (g 0, 24, .inl (fun i => nI (uu.2.1 i)))), (a 71, .inl (g 0, 50, .inl (fun i => nI (KD i))))]) (wr := [(a 0, .inr (7, [.ref (a 1), .ref (a 2), .ref (a 3), .ref (a 4), .ref (a 50), .ref (a 60), .ref (a 7), .ref (a 8), .int (zk_b pic), .int (nI storm), .int chance]))]) ⟨rfl, rfl⟩ (zk_rv (As := [.int y, .int ac, .int x]) (rest := []) (q0 := 1) (ci := 3) Z ((ct_X3_perform l D g τ a zr rn nb TR KD y ac x (by exact hz) (by exact hkd)) sS.heap.size) hK hT hA G [1, 2, 3] rfl (by decide) rfl rfl gX7_act_X3_perform rfl dvX3_perform ⟨by decide, by decide⟩ rfl hl.1 rfl (Nat.le_of_ble_eq_true rfl) dX7_act_7 ⟨Nat.zero_le _, Nat.zero_le _⟩) hA G [1, 2, 3] [0] [0, 1, 2, 3] rfl rfl (by decide) (by decide) (by decide) (fun _ => rfl) (fun r_7 uu H locs w_7 G => ?_)
  obtain ⟨rn1_7, TR1_7, nb1_7⟩ := uu
  have G : zk_G D aA [(a 0, .inr (7, [.ref (a 1), .ref (a 2), .ref (a 3), .ref (a 4), .ref (a 50), .ref (a 60), .ref (a 7), .ref (a 8), .int (zk_b pic), .int (nI storm), .int chance])), (a 7, .inr (3, [.int (nI zr), .int (nI rn1_7), .ref (a 70), .ref (a 71), .int nb1_7])), (a 70, .inl (g 0, 24, .inl (fun i => nI (TR1_7 i)))), (a 71, .inl (g 0, 50, .inl (fun i => nI (KD i))))] sS H locs := G
  obtain ⟨h0_7, w_7⟩ := w_7
  obtain rfl : r_7 = (zr_perf zr KD TR y ac x).1 := h0_7
  have w_7 : (rn1_7, TR1_7) = (zr_perf zr KD TR y ac x).2 ∧ rn1_7 ≤ 2 ^ 19 := w_7
  exact zk_reti Z hR_ hlk hK hQ G (rn1_7, TR1_7, nb1_7) ⟨rfl, w_7⟩ rfl dX7_act_10
