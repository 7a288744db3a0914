/-! The reference: the law worked out; who sees whom; sights of all pairs. -/
def zm_top (st : List Int32) : Int32 := match st with | [] => nI 0 | x :: _ => x
/-- a line: where it ends, whether it counts, what it gives -/
def zm_line (tx : Nat → Nat) (ln : Nat) (NM : Nat → Int32) (p : Nat) : Nat ⊕ (Nat × Bool × Int32) :=
  match zg tx ln (zm_em NM) 42 0 0 p [] with
  | .inl e => .inl e
  | .inr r => if zg_c tx ln r.1 = 63 then (match zg tx ln (zm_em NM) 42 0 0 (r.1 + 1) [] with | .inl e => .inl e | .inr q => .inr (q.1, decide (¬ zm_top r.2 = 0), zm_top q.2)) else .inr (r.1, true, zm_top r.2)
def zm_lns (tx : Nat → Nat) (ln : Nat) (NM : Nat → Int32) : Nat → Nat → Bool → Int32 → Nat ⊕ (Nat × Int32)
  | 0, p, _, z => .inr (p, z)
  | f + 1, p, gv, z => match zm_line tx ln NM p with
    | .inl e => .inl e
    | .inr r => if zg_c tx ln r.1 = 59 then zm_lns tx ln NM f (r.1 + 1) (gv || r.2.1) (if (r.2.1 && !gv) = true then r.2.2 else z) else .inr (r.1, (if (r.2.1 && !gv) = true then r.2.2 else z))
def zm_wo (tx : Nat → Nat) (ln : Nat) (NM : Nat → Int32) : Nat ⊕ Int32 := match zm_lns tx ln NM 122 0 false (nI 0) with | .inl e => .inl e | .inr q => if q.1 < ln then .inl q.1 else .inr q.2
def zm_wp (R : Nat ⊕ Int32) (r ft : Int32) (ln : Nat) : Prop := match R with | .inl e => ft = nI e ∧ e ≤ ln | .inr v => ft = -1 ∧ r = v
theorem zm_line_in {tx : Nat → Nat} {ln p : Nat} {NM : Nat → Int32} (ht : ∀ i, tx i < 256) (hp : p ≤ ln) : match zm_line tx ln NM p with | .inl e => p ≤ e ∧ e ≤ ln | .inr r => p ≤ r.1 ∧ r.1 ≤ ln := by
  unfold zm_line
  have h1 := zg_le (em := zm_em NM) ht 42 0 0 p [] hp (by decide) (by decide) (by decide)
  cases h2 : zg tx ln (zm_em NM) 42 0 0 p [] with
  | inl e => rw [h2] at h1; exact h1
  | inr r =>
    rw [h2] at h1
    simp only
    by_cases h3 : zg_c tx ln r.1 = 63
    · rw [if_pos h3]
      have h4 := zg_c_lt (tp := tx) (ln := ln) (p := r.1) (by omega)
      have h5 := zg_le (em := zm_em NM) ht 42 0 0 (r.1 + 1) [] h4 (by decide) (by decide) (by decide)
      cases h6 : zg tx ln (zm_em NM) 42 0 0 (r.1 + 1) [] with
      | inl e => rw [h6] at h5; exact ⟨Nat.le_trans h1.1 (Nat.le_trans (Nat.le_succ _) h5.1), h5.2⟩
      | inr q => rw [h6] at h5; exact ⟨Nat.le_trans h1.1 (Nat.le_trans (Nat.le_succ _) h5.1), h5.2⟩
    · rw [if_neg h3]; exact h1
theorem zm_meet_c (tl : Bool) (ev : (Nat → Int32) → Int32) (P S R : Nat → Nat) (hide p q t : Nat) : zs_meet tl ev P S R hide p q t = zs_meet tl ev P S R hide q p t := by
  unfold zs_meet; rw [Nat.min_comm, Nat.max_comm]
/-- the law's text as it is held -/
def zm_tn (tl : Bool) (tn : Nat) : Int32 := if tl then nI tn else -1

abbrev rm_X8_workOut : Room := { frames := 48, cells := 0, slots := 0, locals := 2694 }
theorem dvX8_workOut : zk_dv yX8_workOut RX8 2 := by decide +kernel
theorem gmX8_workOut_X8_either : GoodIn wmX8_workOut (wsV RX8 204 RX8 yX8_either wmX8_either) := goodIn_app (wa8_w (List.forall_mem_cons.mpr ⟨wa8_130, List.forall_mem_cons.mpr ⟨wa8_131, List.forall_mem_cons.mpr ⟨wa8_132, List.forall_mem_cons.mpr ⟨wa8_43, fun _ h => absurd h List.not_mem_nil⟩⟩⟩⟩)) (wa8_sub wa8_110)
theorem gmX8_workOut_X8_takes : GoodIn wmX8_workOut (wsV RX8 183 RX8 yX8_takes wmX8_takes) := goodIn_app (wa8_w (List.forall_mem_cons.mpr ⟨wa8_114, List.forall_mem_cons.mpr ⟨wa8_115, List.forall_mem_cons.mpr ⟨wa8_116, List.forall_mem_cons.mpr ⟨wa8_43, fun _ h => absurd h List.not_mem_nil⟩⟩⟩⟩)) (wa8_sub wa8_106)
theorem gmX8_workOut_X8_wrong : GoodIn wmX8_workOut (wsV RX8 201 RX8 yX8_wrong wmX8_wrong) := goodIn_app (wa8_w (List.forall_mem_cons.mpr ⟨wa8_127, List.forall_mem_cons.mpr ⟨wa8_128, List.forall_mem_cons.mpr ⟨wa8_129, List.forall_mem_cons.mpr ⟨wa8_43, fun _ h => absurd h List.not_mem_nil⟩⟩⟩⟩)) (wa8_sub wa8_104)
set_option maxRecDepth 100000 in
set_option maxHeartbeats 400000 in
theorem ct_X8_workOut (l : Launch) (D : va_G) (g : Nat → ClassId) (τ : Nat → Nat) (b : Nat → Nat) (m : Nat → Int32) (sb : Int32) (sa : Int32) (se : Int32) (sf : Int32) (sq : Int32) (ln : Nat) (tb : Bool) (TP : Nat → Nat) (TX : Nat → Nat) (NM : Nat → Int32) (hln : ln ≤ 120) (ht : ∀ i, (zm_tx tb TP TX) i < 256) : zk_MI l D g τ yX8_workOut wmX8_workOut rm_X8_workOut [.ref (b 100), .int (zm_bs tb), .int (nI ln)] [(b 100, .inr (8, [.ref (b 0), .ref (b 1), .ref (b 2), .ref (b 3), .int (m 4), .int (m 5), .int (m 6), .int (m 7), .ref (b 8), .int (m 9), .ref (b 10), .int (m 11), .int sb, .int sa, .int se, .int sf, .int sq, .ref (b 17), .ref (b 18), .ref (b 19), .ref (b 20), .ref (b 21), .ref (b 22), .ref (b 23), .ref (b 24), .int (m 25), .int (m 26), .int (m 27), .int (m 28), .ref (b 29), .ref (b 30), .int (m 31), .int (m 32), .int (m 33), .int (m 34), .int (m 35), .ref (b 36), .ref (b 37), .int (m 38), .ref (b 39), .ref (b 40), .int (m 41), .int (m 42), .int (m 43), .ref (b 44), .ref (b 45), .ref (b 46), .ref (b 47)])), (b 8, .inl (g 0, 120, .inl (fun i => nI (TP i)))), (b 10, .inl (g 0, 120, .inl (fun i => nI (TX i)))), (b 17, .inl (g 0, 6, .inl NM))] (fun (r : Int32) (uu : Int32 × Int32 × Int32 × Int32 × Int32) => zm_wp (zm_wo (zm_tx tb TP TX) ln NM) r uu.2.2.2.1 ln) (fun (uu : Int32 × Int32 × Int32 × Int32 × Int32) => [(b 100, .inr (8, [.ref (b 0), .ref (b 1), .ref (b 2), .ref (b 3), .int (m 4), .int (m 5), .int (m 6), .int (m 7), .ref (b 8), .int (m 9), .ref (b 10), .int (m 11), .int uu.1, .int uu.2.1, .int uu.2.2.1, .int uu.2.2.2.1, .int uu.2.2.2.2, .ref (b 17), .ref (b 18), .ref (b 19), .ref (b 20), .ref (b 21), .ref (b 22), .ref (b 23), .ref (b 24), .int (m 25), .int (m 26), .int (m 27), .int (m 28), .ref (b 29), .ref (b 30), .int (m 31), .int (m 32), .int (m 33), .int (m 34), .int (m 35), .ref (b 36), .ref (b 37), .int (m 38), .ref (b 39), .ref (b 40), .int (m 41), .int (m 42), .int (m 43), .ref (b 44), .ref (b 45), .ref (b 46), .ref (b 47)])), (b 8, .inl (g 0, 120, .inl (fun i => nI (TP i)))), (b 10, .inl (g 0, 120, .inl (fun i => nI (TX i)))), (b 17, .inl (g 0, 6, .inl NM))]) := by
  refine zk_of (av := [.ref (b 100), .int (zm_bs tb), .int (nI ln)]) (W0 := [(b 100, .inr (8, [.ref (b 0), .ref (b 1), .ref (b 2), .ref (b 3), .int (m 4), .int (m 5), .int (m 6), .int (m 7), .ref (b 8), .int (m 9), .ref (b 10), .int (m 11), .int sb, .int sa, .int se, .int sf, .int sq, .ref (b 17), .ref (b 18), .ref (b 19), .ref (b 20), .ref (b 21), .ref (b 22), .ref (b 23), .ref (b 24), .int (m 25), .int (m 26), .int (m 27), .int (m 28), .ref (b 29), .ref (b 30), .int (m 31), .int (m 32), .int (m 33), .int (m 34), .int (m 35), .ref (b 36), .ref (b 37), .int (m 38), .ref (b 39), .ref (b 40), .int (m 41), .int (m 42), .int (m 43), .ref (b 44), .ref (b 45), .ref (b 46), .ref (b 47)])), (b 8, .inl (g 0, 120, .inl (fun i => nI (TP i)))), (b 10, .inl (g 0, 120, .inl (fun i => nI (TX i)))), (b 17, .inl (g 0, 6, .inl NM))]) (y := yX8_workOut) (wd := wmX8_workOut) (Qc := fun A => va_Qi (fun (r : Int32) (uu : Int32 × Int32 × Int32 × Int32 × Int32) => zm_wp (zm_wo (zm_tx tb TP TX) ln NM) r uu.2.2.2.1 ln) (zk_B D g A (fun (uu : Int32 × Int32 × Int32 × Int32 × Int32) => [(b 100, .inr (8, [.ref (b 0), .ref (b 1), .ref (b 2), .ref (b 3), .int (m 4), .int (m 5), .int (m 6), .int (m 7), .ref (b 8), .int (m 9), .ref (b 10), .int (m 11), .int uu.1, .int uu.2.1, .int uu.2.2.1, .int uu.2.2.2.1, .int uu.2.2.2.2, .ref (b 17), .ref (b 18), .ref (b 19), .ref (b 20), .ref (b 21), .ref (b 22), .ref (b 23), .ref (b 24), .int (m 25), .int (m 26), .int (m 27), .int (m 28), .ref (b 29), .ref (b 30), .int (m 31), .int (m 32), .int (m 33), .int (m 34), .int (m 35), .ref (b 36), .ref (b 37), .int (m 38), .ref (b 39), .ref (b 40), .int (m 41), .int (m 42), .int (m 43), .ref (b 44), .ref (b 45), .ref (b 46), .ref (b 47)])), (b 8, .inl (g 0, 120, .inl (fun i => nI (TP i)))), (b 10, .inl (g 0, 120, .inl (fun i => nI (TX i)))), (b 17, .inl (g 0, 6, .inl NM))])) A) (cc := cX8_workOut) (maxL := 8) (ret := (some .int)) (own := RX8) (by decide) rfl rfl (Nat.le_of_ble_eq_true rfl) ?_
  intro pP eE sS mM args below meth cC aA ls qQ Z hR_ hlk hnm hK hT hA hQ G hl
  have hinX8 : ∀ w ∈ u_ws RX8 TX8 48, w ∈ wmX8_workOut := wa8_in
  refine lv_aload_n Z.1 Z.2.1 dX8_workOut_0 rfl (lv_at hl 0 rfl) ?_
  refine lv_iload_n Z.1 Z.2.1 dX8_workOut_1 rfl (lv_at hl 1 rfl) ?_
  refine zk_put tyX8 tyX8_ok nmX8 (C := RX8) (T := TX8) (N := 48) (ci := 8) Z hK G hinX8 0 rfl rfl 12 (by decide) (List.mem_cons_of_mem _ wa8_103) rfl rfl rfl rfl (Nat.le_of_ble_eq_true rfl) (ws' := [(b 100, .inr (8, [.ref (b 0), .ref (b 1), .ref (b 2), .ref (b 3), .int (m 4), .int (m 5), .int (m 6), .int (m 7), .ref (b 8), .int (m 9), .ref (b 10), .int (m 11), .int (zm_bs tb), .int sa, .int se, .int sf, .int sq, .ref (b 17), .ref (b 18), .ref (b 19), .ref (b 20), .ref (b 21), .ref (b 22), .ref (b 23), .ref (b 24), .int (m 25), .int (m 26), .int (m 27), .int (m 28), .ref (b 29), .ref (b 30), .int (m 31), .int (m 32), .int (m 33), .int (m 34), .int (m 35), .ref (b 36), .ref (b 37), .int (m 38), .ref (b 39), .ref (b 40), .int (m 41), .int (m 42), .int (m 43), .ref (b 44), .ref (b 45), .ref (b 46), .ref (b 47)])), (b 8, .inl (g 0, 120, .inl (fun i => nI (TP i)))), (b 10, .inl (g 0, 120, .inl (fun i => nI (TX i)))), (b 17, .inl (g 0, 6, .inl NM))]) rfl dX8_workOut_2 (fun H locs G => ?_)
  refine lv_aload_n Z.1 Z.2.1 dX8_workOut_5 rfl (lv_at hl 0 rfl) ?_
  refine lv_iconst (v := nI 0) Z.1 Z.2.1 dX8_workOut_6 (by decide +kernel) ?_
  refine zk_put tyX8 tyX8_ok nmX8 (C := RX8) (T := TX8) (N := 48) (ci := 8) Z hK G hinX8 0 rfl rfl 13 (by decide) (List.mem_cons_of_mem _ wa8_101) rfl rfl rfl rfl (Nat.le_of_ble_eq_true rfl) (ws' := [(b 100, .inr (8, [.ref (b 0), .ref (b 1), .ref (b 2), .ref (b 3), .int (m 4), .int (m 5), .int (m 6), .int (m 7), .ref (b 8), .int (m 9), .ref (b 10), .int (m 11), .int (zm_bs tb), .int (nI 0), .int se, .int sf, .int sq, .ref (b 17), .ref (b 18), .ref (b 19), .ref (b 20), .ref (b 21), .ref (b 22), .ref (b 23), .ref (b 24), .int (m 25), .int (m 26), .int (m 27), .int (m 28), .ref (b 29), .ref (b 30), .int (m 31), .int (m 32), .int (m 33), .int (m 34), .int (m 35), .ref (b 36), .ref (b 37), .int (m 38), .ref (b 39), .ref (b 40), .int (m 41), .int (m 42), .int (m 43), .ref (b 44), .ref (b 45), .ref (b 46), .ref (b 47)])), (b 8, .inl (g 0, 120, .inl (fun i => nI (TP i)))), (b 10, .inl (g 0, 120, .inl (fun i => nI (TX i)))), (b 17, .inl (g 0, 6, .inl NM))]) rfl dX8_workOut_7 (fun H locs G => ?_)
  refine lv_aload_n Z.1 Z.2.1 dX8_workOut_10 rfl (lv_at hl 0 rfl) ?_
  refine lv_iload_n Z.1 Z.2.1 dX8_workOut_11 rfl (lv_at hl 2 rfl) ?_
  refine zk_put tyX8 tyX8_ok nmX8 (C := RX8) (T := TX8) (N := 48) (ci := 8) Z hK G hinX8 0 rfl rfl 14 (by decide) (List.mem_cons_of_mem _ wa8_102) rfl rfl rfl rfl (Nat.le_of_ble_eq_true rfl) (ws' := [(b 100, .inr (8, [.ref (b 0), .ref (b 1), .ref (b 2), .ref (b 3), .int (m 4), .int (m 5), .int (m 6), .int (m 7), .ref (b 8), .int (m 9), .ref (b 10), .int (m 11), .int (zm_bs tb), .int (nI 0), .int (nI ln), .int sf, .int sq, .ref (b 17), .ref (b 18), .ref (b 19), .ref (b 20), .ref (b 21), .ref (b 22), .ref (b 23), .ref (b 24), .int (m 25), .int (m 26), .int (m 27), .int (m 28), .ref (b 29), .ref (b 30), .int (m 31), .int (m 32), .int (m 33), .int (m 34), .int (m 35), .ref (b 36), .ref (b 37), .int (m 38), .ref (b 39), .ref (b 40), .int (m 41), .int (m 42), .int (m 43), .ref (b 44), .ref (b 45), .ref (b 46), .ref (b 47)])), (b 8, .inl (g 0, 120, .inl (fun i => nI (TP i)))), (b 10, .inl (g 0, 120, .inl (fun i => nI (TX i)))), (b 17, .inl (g 0, 6, .inl NM))]) rfl dX8_workOut_12 (fun H locs G => ?_)
  refine lv_aload_n Z.1 Z.2.1 dX8_workOut_15 rfl (lv_at hl 0 rfl) ?_
  refine lv_iconst (v := (-1)) Z.1 Z.2.1 dX8_workOut_16 (by decide +kernel) ?_
  refine zk_put tyX8 tyX8_ok nmX8 (C := RX8) (T := TX8) (N := 48) (ci := 8) Z hK G hinX8 0 rfl rfl 15 (by decide) (List.mem_cons_of_mem _ wa8_105) rfl rfl rfl rfl (Nat.le_of_ble_eq_true rfl) (ws' := [(b 100, .inr (8, [.ref (b 0), .ref (b 1), .ref (b 2), .ref (b 3), .int (m 4), .int (m 5), .int (m 6), .int (m 7), .ref (b 8), .int (m 9), .ref (b 10), .int (m 11), .int (zm_bs tb), .int (nI 0), .int (nI ln), .int (-1), .int sq, .ref (b 17), .ref (b 18), .ref (b 19), .ref (b 20), .ref (b 21), .ref (b 22), .ref (b 23), .ref (b 24), .int (m 25), .int (m 26), .int (m 27), .int (m 28), .ref (b 29), .ref (b 30), .int (m 31), .int (m 32), .int (m 33), .int (m 34), .int (m 35), .ref (b 36), .ref (b 37), .int (m 38), .ref (b 39), .ref (b 40), .int (m 41), .int (m 42), .int (m 43), .ref (b 44), .ref (b 45), .ref (b 46), .ref (b 47)])), (b 8, .inl (g 0, 120, .inl (fun i => nI (TP i)))), (b 10, .inl (g 0, 120, .inl (fun i => nI (TX i)))), (b 17, .inl (g 0, 6, .inl NM))]) rfl dX8_workOut_17 (fun H locs G => ?_)
  refine lv_aload_n Z.1 Z.2.1 dX8_workOut_20 rfl (lv_at hl 0 rfl) ?_
  refine lv_iconst (v := nI 0) Z.1 Z.2.1 dX8_workOut_21 (by decide +kernel) ?_
  refine zk_put tyX8 tyX8_ok nmX8 (C := RX8) (T := TX8) (N := 48) (ci := 8) Z hK G hinX8 0 rfl rfl 16 (by decide) (List.mem_cons_of_mem _ wa8_126) rfl rfl rfl rfl (Nat.le_of_ble_eq_true rfl) (ws' := [(b 100, .inr (8, [.ref (b 0), .ref (b 1), .ref (b 2), .ref (b 3), .int (m 4), .int (m 5), .int (m 6), .int (m 7), .ref (b 8), .int (m 9), .ref (b 10), .int (m 11), .int (zm_bs tb), .int (nI 0), .int (nI ln), .int (-1), .int (nI 0), .ref (b 17), .ref (b 18), .ref (b 19), .ref (b 20), .ref (b 21), .ref (b 22), .ref (b 23), .ref (b 24), .int (m 25), .int (m 26), .int (m 27), .int (m 28), .ref (b 29), .ref (b 30), .int (m 31), .int (m 32), .int (m 33), .int (m 34), .int (m 35), .ref (b 36), .ref (b 37), .int (m 38), .ref (b 39), .ref (b 40), .int (m 41), .int (m 42), .int (m 43), .ref (b 44), .ref (b 45), .ref (b 46), .ref (b 47)])), (b 8, .inl (g 0, 120, .inl (fun i => nI (TP i)))), (b 10, .inl (g 0, 120, .inl (fun i => nI (TX i)))), (b 17, .inl (g 0, 6, .inl NM))]) rfl dX8_workOut_22 (fun H locs G => ?_)
  refine lv_iconst (v := nI 0) Z.1 Z.2.1 dX8_workOut_25 (by decide +kernel) ?_
  refine lv_istore_n (lv' := [(3, .int (nI 0)), (0, .ref (b 100)), (1, .int (zm_bs tb)), (2, .int (nI ln))]) Z.1 Z.2.1 dX8_workOut_26 rfl hl (by decide) rfl (fun ls hl => ?_)
  refine lv_iconst (v := nI 0) Z.1 Z.2.1 dX8_workOut_27 (by decide +kernel) ?_
  have hl : lv_has ls 8 [(3, .int (zk_b false)), (0, .ref (b 100)), (1, .int (zm_bs tb)), (2, .int (nI ln))] := hl
  refine lv_istore (lv' := [(4, .int (nI 0)), (3, .int (zk_b false)), (0, .ref (b 100)), (1, .int (zm_bs tb)), (2, .int (nI ln))]) Z.1 Z.2.1 dX8_workOut_28 hl (by decide) rfl (fun ls hl => ?_)
  refine lv_iconst (v := nI 1) Z.1 Z.2.1 dX8_workOut_30 (by decide +kernel) ?_
  refine lv_istore (lv' := [(5, .int (nI 1)), (4, .int (nI 0)), (3, .int (zk_b false)), (0, .ref (b 100)), (1, .int (zm_bs tb)), (2, .int (nI ln))]) Z.1 Z.2.1 dX8_workOut_31 hl (by decide) rfl (fun ls hl => ?_)
  have L33 : ∀ (nN : Nat) (p2 : Nat) (gv : Bool) (z : Int32) (f : Nat), f < nN → (122 ≤ p2 + f) → (p2 ≤ ln) → ((match zm_lns (zm_tx tb TP TX) ln NM f p2 gv z with | .inl e => Sum.inl e | .inr q => if q.1 < ln then Sum.inl q.1 else Sum.inr q.2) = zm_wo (zm_tx tb TP TX) ln NM) → ∀ (H : Heap) (locs : List Loc) (ls : Array Slot), zk_G D aA [(b 100, .inr (8, [.ref (b 0), .ref (b 1), .ref (b 2), .ref (b 3), .int (m 4), .int (m 5), .int (m 6), .int (m 7), .ref (b 8), .int (m 9), .ref (b 10), .int (m 11), .int (zm_bs tb), .int (nI p2), .int (nI ln), .int (-1), .int (nI 0), .ref (b 17), .ref (b 18), .ref (b 19), .ref (b 20), .ref (b 21), .ref (b 22), .ref (b 23), .ref (b 24), .int (m 25), .int (m 26), .int (m 27), .int (m 28), .ref (b 29), .ref (b 30), .int (m 31), .int (m 32), .int (m 33), .int (m 34), .int (m 35), .ref (b 36), .ref (b 37), .int (m 38), .ref (b 39), .ref (b 40), .int (m 41), .int (m 42), .int (m 43), .ref (b 44), .ref (b 45), .ref (b 46), .ref (b 47)])), (b 8, .inl (g 0, 120, .inl (fun i => nI (TP i)))), (b 10, .inl (g 0, 120, .inl (fun i => nI (TX i)))), (b 17, .inl (g 0, 6, .inl NM))] sS H locs → lv_has ls 8 [(0, .ref (b 100)), (3, .int (zk_b gv)), (4, .int z), (5, .int (zk_b true))] → W pP l eE rm_X8_workOut sS mM args below meth cC H locs 0 0 qQ (F0 mM 33 ls []) := by
    intro nN
    induction nN with
    | zero => intros; omega
    | succ nN ih33 =>
      intro p2 gv z f hμ hpf hp2 hs H locs ls G hl
      refine lv_iload Z.1 Z.2.1 dX8_workOut_33 (lv_at hl 3 rfl) ?_
      refine lv_if_eq (tgt := 107) Z.1 Z.2.1 dX8_workOut_35 (by decide) (fun c35 => ?_) (fun c35 => ?_)
      · exfalso
        have c35 : true = false := zk_b0.mp c35
        exact absurd c35 (by decide)
      have c35 : true = true := zk_b1.mp c35
      refine lv_aload_n Z.1 Z.2.1 dX8_workOut_38 rfl (lv_at hl 0 rfl) ?_
      refine zk_ci (WF := fun uu => [(b 100, .inr (8, [.ref (b 0), .ref (b 1), .ref (b 2), .ref (b 3), .int (m 4), .int (m 5), .int (m 6), .int (m 7), .ref (b 8), .int (m 9), .ref (b 10), .int (m 11), .int (zm_bs tb), .int (nI uu.1), .int (nI ln), .int uu.2.1, .int uu.2.2, .ref (b 17), .ref (b 18), .ref (b 19), .ref (b 20), .ref (b 21), .ref (b 22), .ref (b 23), .ref (b 24), .int (m 25), .int (m 26), .int (m 27), .int (m 28), .ref (b 29), .ref (b 30), .int (m 31), .int (m 32), .int (m 33), .int (m 34), .int (m 35), .ref (b 36), .ref (b 37), .int (m 38), .ref (b 39), .ref (b 40), .int (m 41), .int (m 42), .int (m 43), .ref (b 44), .ref (b 45), .ref (b 46), .ref (b 47)])), (b 8, .inl (g 0, 120, .inl (fun i => nI (TP i)))), (b 10, .inl (g 0, 120, .inl (fun i => nI (TX i)))), (b 17, .inl (g 0, 6, .inl NM))]) (wr := []) ⟨rfl, rfl⟩ (zk_rv (As := []) (rest := []) (q0 := 0) (ci := 8) Z (((zm_allL l D g τ 42).1 b m ln p2 0 tb TP TX NM ([]) (by exact hln) (by omega) (by exact ht) (by decide) (by decide)) H.size) hK hT hA G [0, 1, 2, 3] rfl (by decide) rfl rfl gmX8_workOut_X8_either rfl dvX8_either ⟨by decide, by decide⟩ rfl hl.1 rfl (Nat.le_of_ble_eq_true rfl) dX8_workOut_39 ⟨Nat.zero_le _, Nat.zero_le _⟩) hA G [0, 1, 2, 3] [] [0, 1, 2, 3] rfl rfl (by decide) (by decide) (by decide) (fun _ => rfl) (fun r_39 uu H locs w_39 G => ?_)
      obtain ⟨p1_39, ft1_39, oq1_39⟩ := uu
      have G : zk_G D aA [(b 100, .inr (8, [.ref (b 0), .ref (b 1), .ref (b 2), .ref (b 3), .int (m 4), .int (m 5), .int (m 6), .int (m 7), .ref (b 8), .int (m 9), .ref (b 10), .int (m 11), .int (zm_bs tb), .int (nI p1_39), .int (nI ln), .int ft1_39, .int oq1_39, .ref (b 17), .ref (b 18), .ref (b 19), .ref (b 20), .ref (b 21), .ref (b 22), .ref (b 23), .ref (b 24), .int (m 25), .int (m 26), .int (m 27), .int (m 28), .ref (b 29), .ref (b 30), .int (m 31), .int (m 32), .int (m 33), .int (m 34), .int (m 35), .ref (b 36), .ref (b 37), .int (m 38), .ref (b 39), .ref (b 40), .int (m 41), .int (m 42), .int (m 43), .ref (b 44), .ref (b 45), .ref (b 46), .ref (b 47)])), (b 8, .inl (g 0, 120, .inl (fun i => nI (TP i)))), (b 10, .inl (g 0, 120, .inl (fun i => nI (TX i)))), (b 17, .inl (g 0, 6, .inl NM))] sS H locs := G
      have zb_39 := zg_le (em := zm_em NM) (ln := ln) ht 42 0 0 (p2) [] (by omega) (by decide) (by decide) (by decide)
      rcases hz_39 : zg (zm_tx tb TP TX) ln (zm_em NM) 42 0 0 (p2) [] with e | ⟨a9, s9⟩
      · obtain ⟨h1_39, h2_39⟩ := zm_pl w_39 hz_39
        obtain rfl : p1_39 = e := h1_39
        obtain rfl : ft1_39 = nI p1_39 := h2_39
        have hb_39 := zb_39
        rw [hz_39] at hb_39
        have hp_39 : p1_39 ≤ ln := hb_39.2
        have hLe : zm_line (zm_tx tb TP TX) ln NM p2 = .inl p1_39 := by unfold zm_line; rw [hz_39]
        obtain ⟨f9, rfl⟩ : ∃ f9, f = f9 + 1 := ⟨f - 1, by omega⟩
        have hWO : zm_wo (zm_tx tb TP TX) ln NM = .inl p1_39 := by rw [← hs]; simp only [zm_lns]; rw [hLe]
        refine lv_istore (lv' := [(6, .int r_39), (0, .ref (b 100)), (3, .int (zk_b gv)), (4, .int z), (5, .int (zk_b true))]) Z.1 Z.2.1 dX8_workOut_42 hl (by decide) rfl (fun ls hl => ?_)
        refine lv_iconst (v := nI 1) Z.1 Z.2.1 dX8_workOut_44 (by decide +kernel) ?_
        refine lv_istore (lv' := [(7, .int (nI 1)), (6, .int r_39), (0, .ref (b 100)), (3, .int (zk_b gv)), (4, .int z), (5, .int (zk_b true))]) Z.1 Z.2.1 dX8_workOut_45 hl (by decide) rfl (fun ls hl => ?_)
        refine lv_aload_n Z.1 Z.2.1 dX8_workOut_47 rfl (lv_at hl 2 rfl) ?_
        refine lv_bipush (v := nI 63) Z.1 Z.2.1 dX8_workOut_48 (by decide +kernel) ?_
        refine zk_ci (WF := fun (_ : Unit) => [(b 100, .inr (8, [.ref (b 0), .ref (b 1), .ref (b 2), .ref (b 3), .int (m 4), .int (m 5), .int (m 6), .int (m 7), .ref (b 8), .int (m 9), .ref (b 10), .int (m 11), .int (zm_bs tb), .int (nI (if (decide ((nI p1_39 : Int32) < 0) && decide (zg_c (zm_tx tb TP TX) ln p1_39 = 63)) = true then p1_39 + 1 else p1_39)), .int (nI ln), .int (nI p1_39), .int oq1_39, .ref (b 17), .ref (b 18), .ref (b 19), .ref (b 20), .ref (b 21), .ref (b 22), .ref (b 23), .ref (b 24), .int (m 25), .int (m 26), .int (m 27), .int (m 28), .ref (b 29), .ref (b 30), .int (m 31), .int (m 32), .int (m 33), .int (m 34), .int (m 35), .ref (b 36), .ref (b 37), .int (m 38), .ref (b 39), .ref (b 40), .int (m 41), .int (m 42), .int (m 43), .ref (b 44), .ref (b 45), .ref (b 46), .ref (b 47)])), (b 8, .inl (g 0, 120, .inl (fun i => nI (TP i)))), (b 10, .inl (g 0, 120, .inl (fun i => nI (TX i)))), (b 17, .inl (g 0, 6, .inl NM))]) (wr := [(b 17, .inl (g 0, 6, .inl NM))]) ⟨rfl, rfl⟩ (zk_rv (As := [.int (nI 63)]) (rest := []) (q0 := 0) (ci := 8) Z ((ct_X8_takes l D g τ b m ln p1_39 (nI p1_39) tb TP TX oq1_39 63 (by exact hln) (by omega) (by exact ht) (by decide)) H.size) hK hT hA G [0, 1, 2] rfl (by decide) rfl rfl gmX8_workOut_X8_takes rfl dvX8_takes ⟨by decide, by decide⟩ rfl hl.1 rfl (Nat.le_of_ble_eq_true rfl) dX8_workOut_50 ⟨Nat.zero_le _, Nat.zero_le _⟩) hA G [0, 1, 2] [3] [1, 2, 3, 0] rfl rfl (by decide) (by decide) (by decide) (fun _ => rfl) (fun r_50 _ H locs w_50 G => ?_)
        obtain rfl : r_50 = zk_b (decide ((nI p1_39 : Int32) < 0) && decide (zg_c (zm_tx tb TP TX) ln p1_39 = 63)) := w_50
        refine lv_if_eq (tgt := 74) Z.1 Z.2.1 dX8_workOut_53 (by decide) (fun c53 => ?_) (fun c53 => ?_)
        · have c53 : (decide ((nI p1_39 : Int32) < 0) && decide (zg_c (zm_tx tb TP TX) ln p1_39 = 63)) = false := zk_b0.mp c53
          have G : zk_G D aA [(b 100, .inr (8, [.ref (b 0), .ref (b 1), .ref (b 2), .ref (b 3), .int (m 4), .int (m 5), .int (m 6), .int (m 7), .ref (b 8), .int (m 9), .ref (b 10), .int (m 11), .int (zm_bs tb), .int (nI p1_39), .int (nI ln), .int (nI p1_39), .int oq1_39, .ref (b 17), .ref (b 18), .ref (b 19), .ref (b 20), .ref (b 21), .ref (b 22), .ref (b 23), .ref (b 24), .int (m 25), .int (m 26), .int (m 27), .int (m 28), .ref (b 29), .ref (b 30), .int (m 31), .int (m 32), .int (m 33), .int (m 34), .int (m 35), .ref (b 36), .ref (b 37), .int (m 38), .ref (b 39), .ref (b 40), .int (m 41), .int (m 42), .int (m 43), .ref (b 44), .ref (b 45), .ref (b 46), .ref (b 47)])), (b 8, .inl (g 0, 120, .inl (fun i => nI (TP i)))), (b 10, .inl (g 0, 120, .inl (fun i => nI (TX i)))), (b 17, .inl (g 0, 6, .inl NM))] sS H locs := (by rw [if_neg (by rw [c53]; decide)] at G; exact G)
          refine lv_aload_n Z.1 Z.2.1 dX8_workOut_74 rfl (lv_at hl 2 rfl) ?_
          refine zk_get (C := RX8) (T := TX8) (N := 48) (ci := 8) Z hK G hinX8 0 rfl rfl 15 (by decide) (List.mem_cons_of_mem _ wa8_105) rfl (v := .int (nI p1_39)) rfl dX8_workOut_75 ?_
          refine lv_if_ge (tgt := 96) Z.1 Z.2.1 dX8_workOut_78 (by decide) (fun c78 => ?_) (fun c78 => ?_)
          · have c78 : 0 ≤ p1_39 := zk_le (by omega) (by omega) c78
            refine lv_aload_n Z.1 Z.2.1 dX8_workOut_96 rfl (lv_at hl 2 rfl) ?_
            refine lv_bipush (v := nI 59) Z.1 Z.2.1 dX8_workOut_97 (by decide +kernel) ?_
            refine zk_ci (WF := fun (_ : Unit) => [(b 100, .inr (8, [.ref (b 0), .ref (b 1), .ref (b 2), .ref (b 3), .int (m 4), .int (m 5), .int (m 6), .int (m 7), .ref (b 8), .int (m 9), .ref (b 10), .int (m 11), .int (zm_bs tb), .int (nI (if (decide ((nI p1_39 : Int32) < 0) && decide (zg_c (zm_tx tb TP TX) ln p1_39 = 59)) = true then p1_39 + 1 else p1_39)), .int (nI ln), .int (nI p1_39), .int oq1_39, .ref (b 17), .ref (b 18), .ref (b 19), .ref (b 20), .ref (b 21), .ref (b 22), .ref (b 23), .ref (b 24), .int (m 25), .int (m 26), .int (m 27), .int (m 28), .ref (b 29), .ref (b 30), .int (m 31), .int (m 32), .int (m 33), .int (m 34), .int (m 35), .ref (b 36), .ref (b 37), .int (m 38), .ref (b 39), .ref (b 40), .int (m 41), .int (m 42), .int (m 43), .ref (b 44), .ref (b 45), .ref (b 46), .ref (b 47)])), (b 8, .inl (g 0, 120, .inl (fun i => nI (TP i)))), (b 10, .inl (g 0, 120, .inl (fun i => nI (TX i)))), (b 17, .inl (g 0, 6, .inl NM))]) (wr := [(b 17, .inl (g 0, 6, .inl NM))]) ⟨rfl, rfl⟩ (zk_rv (As := [.int (nI 59)]) (rest := []) (q0 := 0) (ci := 8) Z ((ct_X8_takes l D g τ b m ln p1_39 (nI p1_39) tb TP TX oq1_39 59 (by exact hln) (by omega) (by exact ht) (by decide)) H.size) hK hT hA G [0, 1, 2] rfl (by decide) rfl rfl gmX8_workOut_X8_takes rfl dvX8_takes ⟨by decide, by decide⟩ rfl hl.1 rfl (Nat.le_of_ble_eq_true rfl) dX8_workOut_99 ⟨Nat.zero_le _, Nat.zero_le _⟩) hA G [0, 1, 2] [3] [1, 2, 3, 0] rfl rfl (by decide) (by decide) (by decide) (fun _ => rfl) (fun r_99 _ H locs w_99 G => ?_)
            obtain rfl : r_99 = zk_b (decide ((nI p1_39 : Int32) < 0) && decide (zg_c (zm_tx tb TP TX) ln p1_39 = 59)) := w_99
            have hf9 := zm_fl (show p1_39 < 2 ^ 31 by omega)
            have G : zk_G D aA [(b 100, .inr (8, [.ref (b 0), .ref (b 1), .ref (b 2), .ref (b 3), .int (m 4), .int (m 5), .int (m 6), .int (m 7), .ref (b 8), .int (m 9), .ref (b 10), .int (m 11), .int (zm_bs tb), .int (nI p1_39), .int (nI ln), .int (nI p1_39), .int oq1_39, .ref (b 17), .ref (b 18), .ref (b 19), .ref (b 20), .ref (b 21), .ref (b 22), .ref (b 23), .ref (b 24), .int (m 25), .int (m 26), .int (m 27), .int (m 28), .ref (b 29), .ref (b 30), .int (m 31), .int (m 32), .int (m 33), .int (m 34), .int (m 35), .ref (b 36), .ref (b 37), .int (m 38), .ref (b 39), .ref (b 40), .int (m 41), .int (m 42), .int (m 43), .ref (b 44), .ref (b 45), .ref (b 46), .ref (b 47)])), (b 8, .inl (g 0, 120, .inl (fun i => nI (TP i)))), (b 10, .inl (g 0, 120, .inl (fun i => nI (TX i)))), (b 17, .inl (g 0, 6, .inl NM))] sS H locs := (by rw [if_neg (by rw [hf9]; simp)] at G; exact G)
            rw [hf9, Bool.false_and]
            refine lv_istore (lv' := [(5, .int (zk_b false)), (7, .int (nI 1)), (6, .int r_39), (0, .ref (b 100)), (3, .int (zk_b gv)), (4, .int z)]) Z.1 Z.2.1 dX8_workOut_102 hl (by decide) rfl (fun ls hl => ?_)
            refine lv_goto (tgt := 33) Z.1 Z.2.1 dX8_workOut_104 (by decide) ?_
            refine lv_iload Z.1 Z.2.1 dX8_workOut_33 (lv_at hl 0 rfl) ?_
            refine lv_if_eq (tgt := 107) Z.1 Z.2.1 dX8_workOut_35 (by decide) (fun c35 => ?_) (fun c35 => ?_)
            · have c35 : false = false := zk_b0.mp c35
              refine lv_aload_n Z.1 Z.2.1 dX8_workOut_107 rfl (lv_at hl 3 rfl) ?_
              refine zk_get (C := RX8) (T := TX8) (N := 48) (ci := 8) Z hK G hinX8 0 rfl rfl 15 (by decide) (List.mem_cons_of_mem _ wa8_105) rfl (v := .int (nI p1_39)) rfl dX8_workOut_108 ?_
              refine lv_if_ge (tgt := 130) Z.1 Z.2.1 dX8_workOut_111 (by decide) (fun c111 => ?_) (fun c111 => ?_)
              · have c111 : 0 ≤ p1_39 := zk_le (by omega) (by omega) c111
                refine lv_iload Z.1 Z.2.1 dX8_workOut_130 (lv_at hl 5 rfl) ?_
                exact zk_reti Z hR_ hlk hK hQ G (zm_bs tb, nI p1_39, nI ln, nI p1_39, oq1_39) (by rw [hWO]; exact ⟨rfl, by omega⟩) rfl dX8_workOut_132
              exfalso
              have c111 : p1_39 < 0 := zk_nle (by omega) (by omega) c111
              omega
            exfalso
            have c35 : false = true := zk_b1.mp c35
            exact absurd c35 (by decide)
          exfalso
          have c78 : p1_39 < 0 := zk_nle (by omega) (by omega) c78
          omega
        exfalso
        have c53 : (decide ((nI p1_39 : Int32) < 0) && decide (zg_c (zm_tx tb TP TX) ln p1_39 = 63)) = true := zk_b1.mp c53
        rw [zm_fl (show p1_39 < 2 ^ 31 by omega)] at c53; exact absurd c53 (by simp)
      · obtain ⟨h1_39, h2_39, h3_39, h4_39⟩ := zm_pr w_39 hz_39
        obtain rfl : p1_39 = a9 := h1_39
        obtain rfl : ft1_39 = -1 := h2_39
        obtain rfl : oq1_39 = nI 0 := h3_39
        obtain rfl : s9 = r_39 :: [] := h4_39
        have hb_39 := zb_39
        rw [hz_39] at hb_39
        have hp_39 : p1_39 ≤ ln := hb_39.2
        have hq_39 : p2 ≤ p1_39 := hb_39.1
        refine lv_istore (lv' := [(6, .int r_39), (0, .ref (b 100)), (3, .int (zk_b gv)), (4, .int z), (5, .int (zk_b true))]) Z.1 Z.2.1 dX8_workOut_42 hl (by decide) rfl (fun ls hl => ?_)
        refine lv_iconst (v := nI 1) Z.1 Z.2.1 dX8_workOut_44 (by decide +kernel) ?_
        refine lv_istore (lv' := [(7, .int (nI 1)), (6, .int r_39), (0, .ref (b 100)), (3, .int (zk_b gv)), (4, .int z), (5, .int (zk_b true))]) Z.1 Z.2.1 dX8_workOut_45 hl (by decide) rfl (fun ls hl => ?_)
        refine lv_aload_n Z.1 Z.2.1 dX8_workOut_47 rfl (lv_at hl 2 rfl) ?_
        refine lv_bipush (v := nI 63) Z.1 Z.2.1 dX8_workOut_48 (by decide +kernel) ?_
        refine zk_ci (WF := fun (_ : Unit) => [(b 100, .inr (8, [.ref (b 0), .ref (b 1), .ref (b 2), .ref (b 3), .int (m 4), .int (m 5), .int (m 6), .int (m 7), .ref (b 8), .int (m 9), .ref (b 10), .int (m 11), .int (zm_bs tb), .int (nI (if (decide (((-1) : Int32) < 0) && decide (zg_c (zm_tx tb TP TX) ln p1_39 = 63)) = true then p1_39 + 1 else p1_39)), .int (nI ln), .int (-1), .int (nI 0), .ref (b 17), .ref (b 18), .ref (b 19), .ref (b 20), .ref (b 21), .ref (b 22), .ref (b 23), .ref (b 24), .int (m 25), .int (m 26), .int (m 27), .int (m 28), .ref (b 29), .ref (b 30), .int (m 31), .int (m 32), .int (m 33), .int (m 34), .int (m 35), .ref (b 36), .ref (b 37), .int (m 38), .ref (b 39), .ref (b 40), .int (m 41), .int (m 42), .int (m 43), .ref (b 44), .ref (b 45), .ref (b 46), .ref (b 47)])), (b 8, .inl (g 0, 120, .inl (fun i => nI (TP i)))), (b 10, .inl (g 0, 120, .inl (fun i => nI (TX i)))), (b 17, .inl (g 0, 6, .inl NM))]) (wr := [(b 17, .inl (g 0, 6, .inl NM))]) ⟨rfl, rfl⟩ (zk_rv (As := [.int (nI 63)]) (rest := []) (q0 := 0) (ci := 8) Z ((ct_X8_takes l D g τ b m ln p1_39 (-1) tb TP TX (nI 0) 63 (by exact hln) (by omega) (by exact ht) (by decide)) H.size) hK hT hA G [0, 1, 2] rfl (by decide) rfl rfl gmX8_workOut_X8_takes rfl dvX8_takes ⟨by decide, by decide⟩ rfl hl.1 rfl (Nat.le_of_ble_eq_true rfl) dX8_workOut_50 ⟨Nat.zero_le _, Nat.zero_le _⟩) hA G [0, 1, 2] [3] [1, 2, 3, 0] rfl rfl (by decide) (by decide) (by decide) (fun _ => rfl) (fun r_50 _ H locs w_50 G => ?_)
        obtain rfl : r_50 = zk_b (decide (((-1) : Int32) < 0) && decide (zg_c (zm_tx tb TP TX) ln p1_39 = 63)) := w_50
        refine lv_if_eq (tgt := 74) Z.1 Z.2.1 dX8_workOut_53 (by decide) (fun c53 => ?_) (fun c53 => ?_)
        · have c53 : (decide (((-1) : Int32) < 0) && decide (zg_c (zm_tx tb TP TX) ln p1_39 = 63)) = false := zk_b0.mp c53
          have c63_ : ¬ zg_c (zm_tx tb TP TX) ln p1_39 = 63 := fun q9 => by have h9 := c53; rw [decide_eq_true q9] at h9; exact absurd h9 (by decide)
          have G : zk_G D aA [(b 100, .inr (8, [.ref (b 0), .ref (b 1), .ref (b 2), .ref (b 3), .int (m 4), .int (m 5), .int (m 6), .int (m 7), .ref (b 8), .int (m 9), .ref (b 10), .int (m 11), .int (zm_bs tb), .int (nI p1_39), .int (nI ln), .int (-1), .int (nI 0), .ref (b 17), .ref (b 18), .ref (b 19), .ref (b 20), .ref (b 21), .ref (b 22), .ref (b 23), .ref (b 24), .int (m 25), .int (m 26), .int (m 27), .int (m 28), .ref (b 29), .ref (b 30), .int (m 31), .int (m 32), .int (m 33), .int (m 34), .int (m 35), .ref (b 36), .ref (b 37), .int (m 38), .ref (b 39), .ref (b 40), .int (m 41), .int (m 42), .int (m 43), .ref (b 44), .ref (b 45), .ref (b 46), .ref (b 47)])), (b 8, .inl (g 0, 120, .inl (fun i => nI (TP i)))), (b 10, .inl (g 0, 120, .inl (fun i => nI (TX i)))), (b 17, .inl (g 0, 6, .inl NM))] sS H locs := (by rw [if_neg (by rw [c53]; decide)] at G; exact G)
          refine lv_aload_n Z.1 Z.2.1 dX8_workOut_74 rfl (lv_at hl 2 rfl) ?_
          refine zk_get (C := RX8) (T := TX8) (N := 48) (ci := 8) Z hK G hinX8 0 rfl rfl 15 (by decide) (List.mem_cons_of_mem _ wa8_105) rfl (v := .int (-1)) rfl dX8_workOut_75 ?_
          refine lv_if_ge (tgt := 96) Z.1 Z.2.1 dX8_workOut_78 (by decide) (fun c78 => ?_) (fun c78 => ?_)
          · exfalso
            have c78 : 0 ≤ ((-1) : Int32) := c78
            exact absurd c78 (by decide)
          have c78 : ¬ 0 ≤ ((-1) : Int32) := c78
          refine lv_iload Z.1 Z.2.1 dX8_workOut_81 (lv_at hl 0 rfl) ?_
          refine lv_if_eq (tgt := 96) Z.1 Z.2.1 dX8_workOut_83 (by decide) (fun c83 => ?_) (fun c83 => ?_)
          · exfalso
            have c83 : 1 = 0 := zk_eq (by omega) (by omega) c83
            omega
          have c83 : 1 ≠ 0 := zk_neq (by omega) (by omega) c83
          refine lv_iload_n Z.1 Z.2.1 dX8_workOut_86 rfl (lv_at hl 3 rfl) ?_
          refine lv_if_ne (tgt := 96) Z.1 Z.2.1 dX8_workOut_87 (by decide) (fun c87 => ?_) (fun c87 => ?_)
          · have c87 : gv = true := zk_b1.mp c87
            have hLe : zm_line (zm_tx tb TP TX) ln NM p2 = .inr (p1_39, true, r_39) := by unfold zm_line; rw [hz_39]; simp only; rw [if_neg c63_]; rfl
            refine lv_aload_n Z.1 Z.2.1 dX8_workOut_96 rfl (lv_at hl 2 rfl) ?_
            refine lv_bipush (v := nI 59) Z.1 Z.2.1 dX8_workOut_97 (by decide +kernel) ?_
            refine zk_ci (WF := fun (_ : Unit) => [(b 100, .inr (8, [.ref (b 0), .ref (b 1), .ref (b 2), .ref (b 3), .int (m 4), .int (m 5), .int (m 6), .int (m 7), .ref (b 8), .int (m 9), .ref (b 10), .int (m 11), .int (zm_bs tb), .int (nI (if (decide (((-1) : Int32) < 0) && decide (zg_c (zm_tx tb TP TX) ln p1_39 = 59)) = true then p1_39 + 1 else p1_39)), .int (nI ln), .int (-1), .int (nI 0), .ref (b 17), .ref (b 18), .ref (b 19), .ref (b 20), .ref (b 21), .ref (b 22), .ref (b 23), .ref (b 24), .int (m 25), .int (m 26), .int (m 27), .int (m 28), .ref (b 29), .ref (b 30), .int (m 31), .int (m 32), .int (m 33), .int (m 34), .int (m 35), .ref (b 36), .ref (b 37), .int (m 38), .ref (b 39), .ref (b 40), .int (m 41), .int (m 42), .int (m 43), .ref (b 44), .ref (b 45), .ref (b 46), .ref (b 47)])), (b 8, .inl (g 0, 120, .inl (fun i => nI (TP i)))), (b 10, .inl (g 0, 120, .inl (fun i => nI (TX i)))), (b 17, .inl (g 0, 6, .inl NM))]) (wr := [(b 17, .inl (g 0, 6, .inl NM))]) ⟨rfl, rfl⟩ (zk_rv (As := [.int (nI 59)]) (rest := []) (q0 := 0) (ci := 8) Z ((ct_X8_takes l D g τ b m ln p1_39 (-1) tb TP TX (nI 0) 59 (by exact hln) (by omega) (by exact ht) (by decide)) H.size) hK hT hA G [0, 1, 2] rfl (by decide) rfl rfl gmX8_workOut_X8_takes rfl dvX8_takes ⟨by decide, by decide⟩ rfl hl.1 rfl (Nat.le_of_ble_eq_true rfl) dX8_workOut_99 ⟨Nat.zero_le _, Nat.zero_le _⟩) hA G [0, 1, 2] [3] [1, 2, 3, 0] rfl rfl (by decide) (by decide) (by decide) (fun _ => rfl) (fun r_99 _ H locs w_99 G => ?_)
            obtain rfl : r_99 = zk_b (decide (((-1) : Int32) < 0) && decide (zg_c (zm_tx tb TP TX) ln p1_39 = 59)) := w_99
            cases hsm : (decide (((-1) : Int32) < 0) && decide (zg_c (zm_tx tb TP TX) ln p1_39 = 59))
            · have c59_ : ¬ zg_c (zm_tx tb TP TX) ln p1_39 = 59 := fun q9 => by have h9 := hsm; rw [decide_eq_true q9] at h9; exact absurd h9 (by decide)
              have G : zk_G D aA [(b 100, .inr (8, [.ref (b 0), .ref (b 1), .ref (b 2), .ref (b 3), .int (m 4), .int (m 5), .int (m 6), .int (m 7), .ref (b 8), .int (m 9), .ref (b 10), .int (m 11), .int (zm_bs tb), .int (nI p1_39), .int (nI ln), .int (-1), .int (nI 0), .ref (b 17), .ref (b 18), .ref (b 19), .ref (b 20), .ref (b 21), .ref (b 22), .ref (b 23), .ref (b 24), .int (m 25), .int (m 26), .int (m 27), .int (m 28), .ref (b 29), .ref (b 30), .int (m 31), .int (m 32), .int (m 33), .int (m 34), .int (m 35), .ref (b 36), .ref (b 37), .int (m 38), .ref (b 39), .ref (b 40), .int (m 41), .int (m 42), .int (m 43), .ref (b 44), .ref (b 45), .ref (b 46), .ref (b 47)])), (b 8, .inl (g 0, 120, .inl (fun i => nI (TP i)))), (b 10, .inl (g 0, 120, .inl (fun i => nI (TX i)))), (b 17, .inl (g 0, 6, .inl NM))] sS H locs := (by rw [if_neg (by rw [hsm]; decide)] at G; exact G)
              obtain ⟨f9, rfl⟩ : ∃ f9, f = f9 + 1 := ⟨f - 1, by omega⟩
              have hWO : (if p1_39 < ln then Sum.inl p1_39 else Sum.inr z) = zm_wo (zm_tx tb TP TX) ln NM := by rw [← hs]; simp only [zm_lns]; rw [hLe]; simp only; rw [if_neg c59_]; rw [c87]; rfl
              refine lv_istore (lv' := [(5, .int (zk_b false)), (7, .int (nI 1)), (6, .int r_39), (0, .ref (b 100)), (3, .int (zk_b gv)), (4, .int z)]) Z.1 Z.2.1 dX8_workOut_102 hl (by decide) rfl (fun ls hl => ?_)
              refine lv_goto (tgt := 33) Z.1 Z.2.1 dX8_workOut_104 (by decide) ?_
              refine lv_iload Z.1 Z.2.1 dX8_workOut_33 (lv_at hl 0 rfl) ?_
              refine lv_if_eq (tgt := 107) Z.1 Z.2.1 dX8_workOut_35 (by decide) (fun c35 => ?_) (fun c35 => ?_)
              · have c35 : false = false := zk_b0.mp c35
                refine lv_aload_n Z.1 Z.2.1 dX8_workOut_107 rfl (lv_at hl 3 rfl) ?_
                refine zk_get (C := RX8) (T := TX8) (N := 48) (ci := 8) Z hK G hinX8 0 rfl rfl 15 (by decide) (List.mem_cons_of_mem _ wa8_105) rfl (v := .int (-1)) rfl dX8_workOut_108 ?_
                refine lv_if_ge (tgt := 130) Z.1 Z.2.1 dX8_workOut_111 (by decide) (fun c111 => ?_) (fun c111 => ?_)
                · exfalso
                  have c111 : 0 ≤ ((-1) : Int32) := c111
                  exact absurd c111 (by decide)
                have c111 : ¬ 0 ≤ ((-1) : Int32) := c111
                refine lv_aload_n Z.1 Z.2.1 dX8_workOut_114 rfl (lv_at hl 3 rfl) ?_
                refine zk_get (C := RX8) (T := TX8) (N := 48) (ci := 8) Z hK G hinX8 0 rfl rfl 13 (by decide) (List.mem_cons_of_mem _ wa8_101) rfl (v := .int (nI p1_39)) rfl dX8_workOut_115 ?_
                refine lv_aload_n Z.1 Z.2.1 dX8_workOut_118 rfl (lv_at hl 3 rfl) ?_
                refine zk_get (C := RX8) (T := TX8) (N := 48) (ci := 8) Z hK G hinX8 0 rfl rfl 14 (by decide) (List.mem_cons_of_mem _ wa8_102) rfl (v := .int (nI ln)) rfl dX8_workOut_119 ?_
                refine lv_icmp_ge (tgt := 130) Z.1 Z.2.1 dX8_workOut_122 (by decide) (fun c122 => ?_) (fun c122 => ?_)
                · have c122 : ln ≤ p1_39 := zk_le (by omega) (by omega) c122
                  refine lv_iload Z.1 Z.2.1 dX8_workOut_130 (lv_at hl 5 rfl) ?_
                  exact zk_reti Z hR_ hlk hK hQ G (zm_bs tb, nI p1_39, nI ln, (-1), nI 0) (by rw [← hWO, if_neg (Nat.not_lt.mpr c122)]; exact ⟨rfl, rfl⟩) rfl dX8_workOut_132
                have c122 : p1_39 < ln := zk_nle (by omega) (by omega) c122
                refine lv_aload_n Z.1 Z.2.1 dX8_workOut_125 rfl (lv_at hl 3 rfl) ?_
                refine zk_ci (WF := fun (_ : Unit) => [(b 100, .inr (8, [.ref (b 0), .ref (b 1), .ref (b 2), .ref (b 3), .int (m 4), .int (m 5), .int (m 6), .int (m 7), .ref (b 8), .int (m 9), .ref (b 10), .int (m 11), .int (zm_bs tb), .int (nI p1_39), .int (nI ln), .int (if (-1) < 0 then nI p1_39 else (-1)), .int (nI 0), .ref (b 17), .ref (b 18), .ref (b 19), .ref (b 20), .ref (b 21), .ref (b 22), .ref (b 23), .ref (b 24), .int (m 25), .int (m 26), .int (m 27), .int (m 28), .ref (b 29), .ref (b 30), .int (m 31), .int (m 32), .int (m 33), .int (m 34), .int (m 35), .ref (b 36), .ref (b 37), .int (m 38), .ref (b 39), .ref (b 40), .int (m 41), .int (m 42), .int (m 43), .ref (b 44), .ref (b 45), .ref (b 46), .ref (b 47)])), (b 8, .inl (g 0, 120, .inl (fun i => nI (TP i)))), (b 10, .inl (g 0, 120, .inl (fun i => nI (TX i)))), (b 17, .inl (g 0, 6, .inl NM))]) (wr := [(b 8, .inl (g 0, 120, .inl (fun i => nI (TP i)))), (b 10, .inl (g 0, 120, .inl (fun i => nI (TX i)))), (b 17, .inl (g 0, 6, .inl NM))]) ⟨rfl, rfl⟩ (zk_rv (As := []) (rest := []) (q0 := 0) (ci := 8) Z ((ct_X8_wrong l D g τ b m ln p1_39 (-1) tb (nI 0) ) H.size) hK hT hA G [0] rfl (by decide) rfl rfl gmX8_workOut_X8_wrong rfl dvX8_wrong ⟨by decide, by decide⟩ rfl hl.1 rfl (Nat.le_of_ble_eq_true rfl) dX8_workOut_126 ⟨Nat.zero_le _, Nat.zero_le _⟩) hA G [0] [1, 2, 3] [3, 0, 1, 2] rfl rfl (by decide) (by decide) (by decide) (fun _ => rfl) (fun r_126 _ H locs w_126 G => ?_)
                obtain rfl : r_126 = nI 0 := w_126
                have G : zk_G D aA [(b 100, .inr (8, [.ref (b 0), .ref (b 1), .ref (b 2), .ref (b 3), .int (m 4), .int (m 5), .int (m 6), .int (m 7), .ref (b 8), .int (m 9), .ref (b 10), .int (m 11), .int (zm_bs tb), .int (nI p1_39), .int (nI ln), .int (nI p1_39), .int (nI 0), .ref (b 17), .ref (b 18), .ref (b 19), .ref (b 20), .ref (b 21), .ref (b 22), .ref (b 23), .ref (b 24), .int (m 25), .int (m 26), .int (m 27), .int (m 28), .ref (b 29), .ref (b 30), .int (m 31), .int (m 32), .int (m 33), .int (m 34), .int (m 35), .ref (b 36), .ref (b 37), .int (m 38), .ref (b 39), .ref (b 40), .int (m 41), .int (m 42), .int (m 43), .ref (b 44), .ref (b 45), .ref (b 46), .ref (b 47)])), (b 8, .inl (g 0, 120, .inl (fun i => nI (TP i)))), (b 10, .inl (g 0, 120, .inl (fun i => nI (TX i)))), (b 17, .inl (g 0, 6, .inl NM))] sS H locs := (by rw [if_pos (by decide)] at G; exact G)
                exact zk_reti Z hR_ hlk hK hQ G (zm_bs tb, nI p1_39, nI ln, nI p1_39, nI 0) (by rw [← hWO, if_pos c122]; exact ⟨rfl, by omega⟩) rfl dX8_workOut_129
              exfalso
              have c35 : false = true := zk_b1.mp c35
              exact absurd c35 (by decide)
            · have c59_ : zg_c (zm_tx tb TP TX) ln p1_39 = 59 := of_decide_eq_true (Bool.and_eq_true _ _ ▸ hsm).2
              have hpl9 : p1_39 < ln := zg_c_lt (tp := (zm_tx tb TP TX)) (by omega)
              have G : zk_G D aA [(b 100, .inr (8, [.ref (b 0), .ref (b 1), .ref (b 2), .ref (b 3), .int (m 4), .int (m 5), .int (m 6), .int (m 7), .ref (b 8), .int (m 9), .ref (b 10), .int (m 11), .int (zm_bs tb), .int (nI (p1_39 + 1)), .int (nI ln), .int (-1), .int (nI 0), .ref (b 17), .ref (b 18), .ref (b 19), .ref (b 20), .ref (b 21), .ref (b 22), .ref (b 23), .ref (b 24), .int (m 25), .int (m 26), .int (m 27), .int (m 28), .ref (b 29), .ref (b 30), .int (m 31), .int (m 32), .int (m 33), .int (m 34), .int (m 35), .ref (b 36), .ref (b 37), .int (m 38), .ref (b 39), .ref (b 40), .int (m 41), .int (m 42), .int (m 43), .ref (b 44), .ref (b 45), .ref (b 46), .ref (b 47)])), (b 8, .inl (g 0, 120, .inl (fun i => nI (TP i)))), (b 10, .inl (g 0, 120, .inl (fun i => nI (TX i)))), (b 17, .inl (g 0, 6, .inl NM))] sS H locs := (by rw [if_pos hsm] at G; exact G)
              obtain ⟨f9, rfl⟩ : ∃ f9, f = f9 + 1 := ⟨f - 1, by omega⟩
              have hs2 : (match zm_lns (zm_tx tb TP TX) ln NM f9 (p1_39 + 1) gv z with | .inl e => Sum.inl e | .inr q => if q.1 < ln then Sum.inl q.1 else Sum.inr q.2) = zm_wo (zm_tx tb TP TX) ln NM := by rw [← hs]; simp only [zm_lns]; rw [hLe]; simp only; rw [if_pos c59_]; rw [c87]; rfl
              refine lv_istore (lv' := [(5, .int (zk_b true)), (7, .int (nI 1)), (6, .int r_39), (0, .ref (b 100)), (3, .int (zk_b gv)), (4, .int z)]) Z.1 Z.2.1 dX8_workOut_102 hl (by decide) rfl (fun ls hl => ?_)
              refine lv_goto (tgt := 33) Z.1 Z.2.1 dX8_workOut_104 (by decide) ?_
              exact ih33 (p1_39 + 1) gv z f9 (by omega) (by omega) (by omega) (by exact hs2) _ _ _ G (lv_sub hl [3, 4, 5, 0] rfl)
          have c87 : gv = false := zk_b0.mp c87
          refine lv_iconst (v := nI 1) Z.1 Z.2.1 dX8_workOut_90 (by decide +kernel) ?_
          refine lv_istore_n (lv' := [(3, .int (nI 1)), (7, .int (nI 1)), (6, .int r_39), (0, .ref (b 100)), (4, .int z), (5, .int (zk_b true))]) Z.1 Z.2.1 dX8_workOut_91 rfl hl (by decide) rfl (fun ls hl => ?_)
          refine lv_iload Z.1 Z.2.1 dX8_workOut_92 (lv_at hl 2 rfl) ?_
          refine lv_istore (lv' := [(4, .int r_39), (3, .int (nI 1)), (7, .int (nI 1)), (6, .int r_39), (0, .ref (b 100)), (5, .int (zk_b true))]) Z.1 Z.2.1 dX8_workOut_94 hl (by decide) rfl (fun ls hl => ?_)
          have hLe : zm_line (zm_tx tb TP TX) ln NM p2 = .inr (p1_39, true, r_39) := by unfold zm_line; rw [hz_39]; simp only; rw [if_neg c63_]; rfl
          have hl : lv_has ls 8 [(4, .int r_39), (3, .int (zk_b true)), (7, .int (nI 1)), (6, .int r_39), (0, .ref (b 100)), (5, .int (zk_b true))] := hl
          refine lv_aload_n Z.1 Z.2.1 dX8_workOut_96 rfl (lv_at hl 4 rfl) ?_
          refine lv_bipush (v := nI 59) Z.1 Z.2.1 dX8_workOut_97 (by decide +kernel) ?_
          refine zk_ci (WF := fun (_ : Unit) => [(b 100, .inr (8, [.ref (b 0), .ref (b 1), .ref (b 2), .ref (b 3), .int (m 4), .int (m 5), .int (m 6), .int (m 7), .ref (b 8), .int (m 9), .ref (b 10), .int (m 11), .int (zm_bs tb), .int (nI (if (decide (((-1) : Int32) < 0) && decide (zg_c (zm_tx tb TP TX) ln p1_39 = 59)) = true then p1_39 + 1 else p1_39)), .int (nI ln), .int (-1), .int (nI 0), .ref (b 17), .ref (b 18), .ref (b 19), .ref (b 20), .ref (b 21), .ref (b 22), .ref (b 23), .ref (b 24), .int (m 25), .int (m 26), .int (m 27), .int (m 28), .ref (b 29), .ref (b 30), .int (m 31), .int (m 32), .int (m 33), .int (m 34), .int (m 35), .ref (b 36), .ref (b 37), .int (m 38), .ref (b 39), .ref (b 40), .int (m 41), .int (m 42), .int (m 43), .ref (b 44), .ref (b 45), .ref (b 46), .ref (b 47)])), (b 8, .inl (g 0, 120, .inl (fun i => nI (TP i)))), (b 10, .inl (g 0, 120, .inl (fun i => nI (TX i)))), (b 17, .inl (g 0, 6, .inl NM))]) (wr := [(b 17, .inl (g 0, 6, .inl NM))]) ⟨rfl, rfl⟩ (zk_rv (As := [.int (nI 59)]) (rest := []) (q0 := 0) (ci := 8) Z ((ct_X8_takes l D g τ b m ln p1_39 (-1) tb TP TX (nI 0) 59 (by exact hln) (by omega) (by exact ht) (by decide)) H.size) hK hT hA G [0, 1, 2] rfl (by decide) rfl rfl gmX8_workOut_X8_takes rfl dvX8_takes ⟨by decide, by decide⟩ rfl hl.1 rfl (Nat.le_of_ble_eq_true rfl) dX8_workOut_99 ⟨Nat.zero_le _, Nat.zero_le _⟩) hA G [0, 1, 2] [3] [1, 2, 3, 0] rfl rfl (by decide) (by decide) (by decide) (fun _ => rfl) (fun r_99 _ H locs w_99 G => ?_)
          obtain rfl : r_99 = zk_b (decide (((-1) : Int32) < 0) && decide (zg_c (zm_tx tb TP TX) ln p1_39 = 59)) := w_99
          cases hsm : (decide (((-1) : Int32) < 0) && decide (zg_c (zm_tx tb TP TX) ln p1_39 = 59))
          · have c59_ : ¬ zg_c (zm_tx tb TP TX) ln p1_39 = 59 := fun q9 => by have h9 := hsm; rw [decide_eq_true q9] at h9; exact absurd h9 (by decide)
            have G : zk_G D aA [(b 100, .inr (8, [.ref (b 0), .ref (b 1), .ref (b 2), .ref (b 3), .int (m 4), .int (m 5), .int (m 6), .int (m 7), .ref (b 8), .int (m 9), .ref (b 10), .int (m 11), .int (zm_bs tb), .int (nI p1_39), .int (nI ln), .int (-1), .int (nI 0), .ref (b 17), .ref (b 18), .ref (b 19), .ref (b 20), .ref (b 21), .ref (b 22), .ref (b 23), .ref (b 24), .int (m 25), .int (m 26), .int (m 27), .int (m 28), .ref (b 29), .ref (b 30), .int (m 31), .int (m 32), .int (m 33), .int (m 34), .int (m 35), .ref (b 36), .ref (b 37), .int (m 38), .ref (b 39), .ref (b 40), .int (m 41), .int (m 42), .int (m 43), .ref (b 44), .ref (b 45), .ref (b 46), .ref (b 47)])), (b 8, .inl (g 0, 120, .inl (fun i => nI (TP i)))), (b 10, .inl (g 0, 120, .inl (fun i => nI (TX i)))), (b 17, .inl (g 0, 6, .inl NM))] sS H locs := (by rw [if_neg (by rw [hsm]; decide)] at G; exact G)
            obtain ⟨f9, rfl⟩ : ∃ f9, f = f9 + 1 := ⟨f - 1, by omega⟩
            have hWO : (if p1_39 < ln then Sum.inl p1_39 else Sum.inr r_39) = zm_wo (zm_tx tb TP TX) ln NM := by rw [← hs]; simp only [zm_lns]; rw [hLe]; simp only; rw [if_neg c59_]; rw [c87]; rfl
            refine lv_istore (lv' := [(5, .int (zk_b false)), (4, .int r_39), (3, .int (zk_b true)), (7, .int (nI 1)), (6, .int r_39), (0, .ref (b 100))]) Z.1 Z.2.1 dX8_workOut_102 hl (by decide) rfl (fun ls hl => ?_)
            refine lv_goto (tgt := 33) Z.1 Z.2.1 dX8_workOut_104 (by decide) ?_
            refine lv_iload Z.1 Z.2.1 dX8_workOut_33 (lv_at hl 0 rfl) ?_
            refine lv_if_eq (tgt := 107) Z.1 Z.2.1 dX8_workOut_35 (by decide) (fun c35 => ?_) (fun c35 => ?_)
            · have c35 : false = false := zk_b0.mp c35
              refine lv_aload_n Z.1 Z.2.1 dX8_workOut_107 rfl (lv_at hl 5 rfl) ?_
              refine zk_get (C := RX8) (T := TX8) (N := 48) (ci := 8) Z hK G hinX8 0 rfl rfl 15 (by decide) (List.mem_cons_of_mem _ wa8_105) rfl (v := .int (-1)) rfl dX8_workOut_108 ?_
              refine lv_if_ge (tgt := 130) Z.1 Z.2.1 dX8_workOut_111 (by decide) (fun c111 => ?_) (fun c111 => ?_)
              · exfalso
                have c111 : 0 ≤ ((-1) : Int32) := c111
                exact absurd c111 (by decide)
              have c111 : ¬ 0 ≤ ((-1) : Int32) := c111
              refine lv_aload_n Z.1 Z.2.1 dX8_workOut_114 rfl (lv_at hl 5 rfl) ?_
              refine zk_get (C := RX8) (T := TX8) (N := 48) (ci := 8) Z hK G hinX8 0 rfl rfl 13 (by decide) (List.mem_cons_of_mem _ wa8_101) rfl (v := .int (nI p1_39)) rfl dX8_workOut_115 ?_
              refine lv_aload_n Z.1 Z.2.1 dX8_workOut_118 rfl (lv_at hl 5 rfl) ?_
              refine zk_get (C := RX8) (T := TX8) (N := 48) (ci := 8) Z hK G hinX8 0 rfl rfl 14 (by decide) (List.mem_cons_of_mem _ wa8_102) rfl (v := .int (nI ln)) rfl dX8_workOut_119 ?_
              refine lv_icmp_ge (tgt := 130) Z.1 Z.2.1 dX8_workOut_122 (by decide) (fun c122 => ?_) (fun c122 => ?_)
              · have c122 : ln ≤ p1_39 := zk_le (by omega) (by omega) c122
                refine lv_iload Z.1 Z.2.1 dX8_workOut_130 (lv_at hl 1 rfl) ?_
                exact zk_reti Z hR_ hlk hK hQ G (zm_bs tb, nI p1_39, nI ln, (-1), nI 0) (by rw [← hWO, if_neg (Nat.not_lt.mpr c122)]; exact ⟨rfl, rfl⟩) rfl dX8_workOut_132
              have c122 : p1_39 < ln := zk_nle (by omega) (by omega) c122
              refine lv_aload_n Z.1 Z.2.1 dX8_workOut_125 rfl (lv_at hl 5 rfl) ?_
              refine zk_ci (WF := fun (_ : Unit) => [(b 100, .inr (8, [.ref (b 0), .ref (b 1), .ref (b 2), .ref (b 3), .int (m 4), .int (m 5), .int (m 6), .int (m 7), .ref (b 8), .int (m 9), .ref (b 10), .int (m 11), .int (zm_bs tb), .int (nI p1_39), .int (nI ln), .int (if (-1) < 0 then nI p1_39 else (-1)), .int (nI 0), .ref (b 17), .ref (b 18), .ref (b 19), .ref (b 20), .ref (b 21), .ref (b 22), .ref (b 23), .ref (b 24), .int (m 25), .int (m 26), .int (m 27), .int (m 28), .ref (b 29), .ref (b 30), .int (m 31), .int (m 32), .int (m 33), .int (m 34), .int (m 35), .ref (b 36), .ref (b 37), .int (m 38), .ref (b 39), .ref (b 40), .int (m 41), .int (m 42), .int (m 43), .ref (b 44), .ref (b 45), .ref (b 46), .ref (b 47)])), (b 8, .inl (g 0, 120, .inl (fun i => nI (TP i)))), (b 10, .inl (g 0, 120, .inl (fun i => nI (TX i)))), (b 17, .inl (g 0, 6, .inl NM))]) (wr := [(b 8, .inl (g 0, 120, .inl (fun i => nI (TP i)))), (b 10, .inl (g 0, 120, .inl (fun i => nI (TX i)))), (b 17, .inl (g 0, 6, .inl NM))]) ⟨rfl, rfl⟩ (zk_rv (As := []) (rest := []) (q0 := 0) (ci := 8) Z ((ct_X8_wrong l D g τ b m ln p1_39 (-1) tb (nI 0) ) H.size) hK hT hA G [0] rfl (by decide) rfl rfl gmX8_workOut_X8_wrong rfl dvX8_wrong ⟨by decide, by decide⟩ rfl hl.1 rfl (Nat.le_of_ble_eq_true rfl) dX8_workOut_126 ⟨Nat.zero_le _, Nat.zero_le _⟩) hA G [0] [1, 2, 3] [3, 0, 1, 2] rfl rfl (by decide) (by decide) (by decide) (fun _ => rfl) (fun r_126 _ H locs w_126 G => ?_)
              obtain rfl : r_126 = nI 0 := w_126
              have G : zk_G D aA [(b 100, .inr (8, [.ref (b 0), .ref (b 1), .ref (b 2), .ref (b 3), .int (m 4), .int (m 5), .int (m 6), .int (m 7), .ref (b 8), .int (m 9), .ref (b 10), .int (m 11), .int (zm_bs tb), .int (nI p1_39), .int (nI ln), .int (nI p1_39), .int (nI 0), .ref (b 17), .ref (b 18), .ref (b 19), .ref (b 20), .ref (b 21), .ref (b 22), .ref (b 23), .ref (b 24), .int (m 25), .int (m 26), .int (m 27), .int (m 28), .ref (b 29), .ref (b 30), .int (m 31), .int (m 32), .int (m 33), .int (m 34), .int (m 35), .ref (b 36), .ref (b 37), .int (m 38), .ref (b 39), .ref (b 40), .int (m 41), .int (m 42), .int (m 43), .ref (b 44), .ref (b 45), .ref (b 46), .ref (b 47)])), (b 8, .inl (g 0, 120, .inl (fun i => nI (TP i)))), (b 10, .inl (g 0, 120, .inl (fun i => nI (TX i)))), (b 17, .inl (g 0, 6, .inl NM))] sS H locs := (by rw [if_pos (by decide)] at G; exact G)
              exact zk_reti Z hR_ hlk hK hQ G (zm_bs tb, nI p1_39, nI ln, nI p1_39, nI 0) (by rw [← hWO, if_pos c122]; exact ⟨rfl, by omega⟩) rfl dX8_workOut_129
            exfalso
            have c35 : false = true := zk_b1.mp c35
            exact absurd c35 (by decide)
          · have c59_ : zg_c (zm_tx tb TP TX) ln p1_39 = 59 := of_decide_eq_true (Bool.and_eq_true _ _ ▸ hsm).2
            have hpl9 : p1_39 < ln := zg_c_lt (tp := (zm_tx tb TP TX)) (by omega)
            have G : zk_G D aA [(b 100, .inr (8, [.ref (b 0), .ref (b 1), .ref (b 2), .ref (b 3), .int (m 4), .int (m 5), .int (m 6), .int (m 7), .ref (b 8), .int (m 9), .ref (b 10), .int (m 11), .int (zm_bs tb), .int (nI (p1_39 + 1)), .int (nI ln), .int (-1), .int (nI 0), .ref (b 17), .ref (b 18), .ref (b 19), .ref (b 20), .ref (b 21), .ref (b 22), .ref (b 23), .ref (b 24), .int (m 25), .int (m 26), .int (m 27), .int (m 28), .ref (b 29), .ref (b 30), .int (m 31), .int (m 32), .int (m 33), .int (m 34), .int (m 35), .ref (b 36), .ref (b 37), .int (m 38), .ref (b 39), .ref (b 40), .int (m 41), .int (m 42), .int (m 43), .ref (b 44), .ref (b 45), .ref (b 46), .ref (b 47)])), (b 8, .inl (g 0, 120, .inl (fun i => nI (TP i)))), (b 10, .inl (g 0, 120, .inl (fun i => nI (TX i)))), (b 17, .inl (g 0, 6, .inl NM))] sS H locs := (by rw [if_pos hsm] at G; exact G)
            obtain ⟨f9, rfl⟩ : ∃ f9, f = f9 + 1 := ⟨f - 1, by omega⟩
            have hs2 : (match zm_lns (zm_tx tb TP TX) ln NM f9 (p1_39 + 1) true r_39 with | .inl e => Sum.inl e | .inr q => if q.1 < ln then Sum.inl q.1 else Sum.inr q.2) = zm_wo (zm_tx tb TP TX) ln NM := by rw [← hs]; simp only [zm_lns]; rw [hLe]; simp only; rw [if_pos c59_]; rw [c87]; rfl
            refine lv_istore (lv' := [(5, .int (zk_b true)), (4, .int r_39), (3, .int (zk_b true)), (7, .int (nI 1)), (6, .int r_39), (0, .ref (b 100))]) Z.1 Z.2.1 dX8_workOut_102 hl (by decide) rfl (fun ls hl => ?_)
            refine lv_goto (tgt := 33) Z.1 Z.2.1 dX8_workOut_104 (by decide) ?_
            exact ih33 (p1_39 + 1) true r_39 f9 (by omega) (by omega) (by omega) (by exact hs2) _ _ _ G (lv_sub hl [5, 2, 1, 0] rfl)
        have c53 : (decide (((-1) : Int32) < 0) && decide (zg_c (zm_tx tb TP TX) ln p1_39 = 63)) = true := zk_b1.mp c53
        have c63_ : zg_c (zm_tx tb TP TX) ln p1_39 = 63 := of_decide_eq_true (Bool.and_eq_true _ _ ▸ c53).2
        have hpl : p1_39 < ln := zg_c_lt (tp := (zm_tx tb TP TX)) (by omega)
        have G : zk_G D aA [(b 100, .inr (8, [.ref (b 0), .ref (b 1), .ref (b 2), .ref (b 3), .int (m 4), .int (m 5), .int (m 6), .int (m 7), .ref (b 8), .int (m 9), .ref (b 10), .int (m 11), .int (zm_bs tb), .int (nI (p1_39 + 1)), .int (nI ln), .int (-1), .int (nI 0), .ref (b 17), .ref (b 18), .ref (b 19), .ref (b 20), .ref (b 21), .ref (b 22), .ref (b 23), .ref (b 24), .int (m 25), .int (m 26), .int (m 27), .int (m 28), .ref (b 29), .ref (b 30), .int (m 31), .int (m 32), .int (m 33), .int (m 34), .int (m 35), .ref (b 36), .ref (b 37), .int (m 38), .ref (b 39), .ref (b 40), .int (m 41), .int (m 42), .int (m 43), .ref (b 44), .ref (b 45), .ref (b 46), .ref (b 47)])), (b 8, .inl (g 0, 120, .inl (fun i => nI (TP i)))), (b 10, .inl (g 0, 120, .inl (fun i => nI (TX i)))), (b 17, .inl (g 0, 6, .inl NM))] sS H locs := (by rw [if_pos c53] at G; exact G)
        refine lv_iload Z.1 Z.2.1 dX8_workOut_56 (lv_at hl 1 rfl) ?_
        refine lv_if_eq (tgt := 65) Z.1 Z.2.1 dX8_workOut_58 (by decide) (fun c58 => ?_) (fun c58 => ?_)
        · have c58 : r_39 = 0 := c58
          refine lv_iconst (v := nI 0) Z.1 Z.2.1 dX8_workOut_65 (by decide +kernel) ?_
          refine lv_istore (lv' := [(7, .int (nI 0)), (6, .int r_39), (0, .ref (b 100)), (3, .int (zk_b gv)), (4, .int z), (5, .int (zk_b true))]) Z.1 Z.2.1 dX8_workOut_66 hl (by decide) rfl (fun ls hl => ?_)
          refine lv_aload_n Z.1 Z.2.1 dX8_workOut_68 rfl (lv_at hl 2 rfl) ?_
          refine zk_ci (WF := fun uu => [(b 100, .inr (8, [.ref (b 0), .ref (b 1), .ref (b 2), .ref (b 3), .int (m 4), .int (m 5), .int (m 6), .int (m 7), .ref (b 8), .int (m 9), .ref (b 10), .int (m 11), .int (zm_bs tb), .int (nI uu.1), .int (nI ln), .int uu.2.1, .int uu.2.2, .ref (b 17), .ref (b 18), .ref (b 19), .ref (b 20), .ref (b 21), .ref (b 22), .ref (b 23), .ref (b 24), .int (m 25), .int (m 26), .int (m 27), .int (m 28), .ref (b 29), .ref (b 30), .int (m 31), .int (m 32), .int (m 33), .int (m 34), .int (m 35), .ref (b 36), .ref (b 37), .int (m 38), .ref (b 39), .ref (b 40), .int (m 41), .int (m 42), .int (m 43), .ref (b 44), .ref (b 45), .ref (b 46), .ref (b 47)])), (b 8, .inl (g 0, 120, .inl (fun i => nI (TP i)))), (b 10, .inl (g 0, 120, .inl (fun i => nI (TX i)))), (b 17, .inl (g 0, 6, .inl NM))]) (wr := []) ⟨rfl, rfl⟩ (zk_rv (As := []) (rest := []) (q0 := 0) (ci := 8) Z (((zm_allL l D g τ 42).1 b m ln (p1_39 + 1) 0 tb TP TX NM ([]) (by exact hln) (by omega) (by exact ht) (by decide) (by decide)) H.size) hK hT hA G [0, 1, 2, 3] rfl (by decide) rfl rfl gmX8_workOut_X8_either rfl dvX8_either ⟨by decide, by decide⟩ rfl hl.1 rfl (Nat.le_of_ble_eq_true rfl) dX8_workOut_69 ⟨Nat.zero_le _, Nat.zero_le _⟩) hA G [0, 1, 2, 3] [] [0, 1, 2, 3] rfl rfl (by decide) (by decide) (by decide) (fun _ => rfl) (fun r_69 uu H locs w_69 G => ?_)
          obtain ⟨p1_69, ft1_69, oq1_69⟩ := uu
          have G : zk_G D aA [(b 100, .inr (8, [.ref (b 0), .ref (b 1), .ref (b 2), .ref (b 3), .int (m 4), .int (m 5), .int (m 6), .int (m 7), .ref (b 8), .int (m 9), .ref (b 10), .int (m 11), .int (zm_bs tb), .int (nI p1_69), .int (nI ln), .int ft1_69, .int oq1_69, .ref (b 17), .ref (b 18), .ref (b 19), .ref (b 20), .ref (b 21), .ref (b 22), .ref (b 23), .ref (b 24), .int (m 25), .int (m 26), .int (m 27), .int (m 28), .ref (b 29), .ref (b 30), .int (m 31), .int (m 32), .int (m 33), .int (m 34), .int (m 35), .ref (b 36), .ref (b 37), .int (m 38), .ref (b 39), .ref (b 40), .int (m 41), .int (m 42), .int (m 43), .ref (b 44), .ref (b 45), .ref (b 46), .ref (b 47)])), (b 8, .inl (g 0, 120, .inl (fun i => nI (TP i)))), (b 10, .inl (g 0, 120, .inl (fun i => nI (TX i)))), (b 17, .inl (g 0, 6, .inl NM))] sS H locs := G
          have zb_69 := zg_le (em := zm_em NM) (ln := ln) ht 42 0 0 (p1_39 + 1) [] (by omega) (by decide) (by decide) (by decide)
          rcases hz_69 : zg (zm_tx tb TP TX) ln (zm_em NM) 42 0 0 (p1_39 + 1) [] with e | ⟨a9, s9⟩
          · obtain ⟨h1_69, h2_69⟩ := zm_pl w_69 hz_69
            obtain rfl : p1_69 = e := h1_69
            obtain rfl : ft1_69 = nI p1_69 := h2_69
            have hb_69 := zb_69
            rw [hz_69] at hb_69
            have hp_69 : p1_69 ≤ ln := hb_69.2
            have hLe : zm_line (zm_tx tb TP TX) ln NM p2 = .inl p1_69 := by unfold zm_line; rw [hz_39]; simp only; rw [if_pos c63_, hz_69]
            obtain ⟨f9, rfl⟩ : ∃ f9, f = f9 + 1 := ⟨f - 1, by omega⟩
            have hWO : zm_wo (zm_tx tb TP TX) ln NM = .inl p1_69 := by rw [← hs]; simp only [zm_lns]; rw [hLe]
            refine lv_istore (lv' := [(6, .int r_69), (7, .int (nI 0)), (0, .ref (b 100)), (3, .int (zk_b gv)), (4, .int z), (5, .int (zk_b true))]) Z.1 Z.2.1 dX8_workOut_72 hl (by decide) rfl (fun ls hl => ?_)
            refine lv_aload_n Z.1 Z.2.1 dX8_workOut_74 rfl (lv_at hl 2 rfl) ?_
            refine zk_get (C := RX8) (T := TX8) (N := 48) (ci := 8) Z hK G hinX8 0 rfl rfl 15 (by decide) (List.mem_cons_of_mem _ wa8_105) rfl (v := .int (nI p1_69)) rfl dX8_workOut_75 ?_
            refine lv_if_ge (tgt := 96) Z.1 Z.2.1 dX8_workOut_78 (by decide) (fun c78 => ?_) (fun c78 => ?_)
            · have c78 : 0 ≤ p1_69 := zk_le (by omega) (by omega) c78
              refine lv_aload_n Z.1 Z.2.1 dX8_workOut_96 rfl (lv_at hl 2 rfl) ?_
              refine lv_bipush (v := nI 59) Z.1 Z.2.1 dX8_workOut_97 (by decide +kernel) ?_
              refine zk_ci (WF := fun (_ : Unit) => [(b 100, .inr (8, [.ref (b 0), .ref (b 1), .ref (b 2), .ref (b 3), .int (m 4), .int (m 5), .int (m 6), .int (m 7), .ref (b 8), .int (m 9), .ref (b 10), .int (m 11), .int (zm_bs tb), .int (nI (if (decide ((nI p1_69 : Int32) < 0) && decide (zg_c (zm_tx tb TP TX) ln p1_69 = 59)) = true then p1_69 + 1 else p1_69)), .int (nI ln), .int (nI p1_69), .int oq1_69, .ref (b 17), .ref (b 18), .ref (b 19), .ref (b 20), .ref (b 21), .ref (b 22), .ref (b 23), .ref (b 24), .int (m 25), .int (m 26), .int (m 27), .int (m 28), .ref (b 29), .ref (b 30), .int (m 31), .int (m 32), .int (m 33), .int (m 34), .int (m 35), .ref (b 36), .ref (b 37), .int (m 38), .ref (b 39), .ref (b 40), .int (m 41), .int (m 42), .int (m 43), .ref (b 44), .ref (b 45), .ref (b 46), .ref (b 47)])), (b 8, .inl (g 0, 120, .inl (fun i => nI (TP i)))), (b 10, .inl (g 0, 120, .inl (fun i => nI (TX i)))), (b 17, .inl (g 0, 6, .inl NM))]) (wr := [(b 17, .inl (g 0, 6, .inl NM))]) ⟨rfl, rfl⟩ (zk_rv (As := [.int (nI 59)]) (rest := []) (q0 := 0) (ci := 8) Z ((ct_X8_takes l D g τ b m ln p1_69 (nI p1_69) tb TP TX oq1_69 59 (by exact hln) (by omega) (by exact ht) (by decide)) H.size) hK hT hA G [0, 1, 2] rfl (by decide) rfl rfl gmX8_workOut_X8_takes rfl dvX8_takes ⟨by decide, by decide⟩ rfl hl.1 rfl (Nat.le_of_ble_eq_true rfl) dX8_workOut_99 ⟨Nat.zero_le _, Nat.zero_le _⟩) hA G [0, 1, 2] [3] [1, 2, 3, 0] rfl rfl (by decide) (by decide) (by decide) (fun _ => rfl) (fun r_99 _ H locs w_99 G => ?_)
              obtain rfl : r_99 = zk_b (decide ((nI p1_69 : Int32) < 0) && decide (zg_c (zm_tx tb TP TX) ln p1_69 = 59)) := w_99
              have hf9 := zm_fl (show p1_69 < 2 ^ 31 by omega)
              have G : zk_G D aA [(b 100, .inr (8, [.ref (b 0), .ref (b 1), .ref (b 2), .ref (b 3), .int (m 4), .int (m 5), .int (m 6), .int (m 7), .ref (b 8), .int (m 9), .ref (b 10), .int (m 11), .int (zm_bs tb), .int (nI p1_69), .int (nI ln), .int (nI p1_69), .int oq1_69, .ref (b 17), .ref (b 18), .ref (b 19), .ref (b 20), .ref (b 21), .ref (b 22), .ref (b 23), .ref (b 24), .int (m 25), .int (m 26), .int (m 27), .int (m 28), .ref (b 29), .ref (b 30), .int (m 31), .int (m 32), .int (m 33), .int (m 34), .int (m 35), .ref (b 36), .ref (b 37), .int (m 38), .ref (b 39), .ref (b 40), .int (m 41), .int (m 42), .int (m 43), .ref (b 44), .ref (b 45), .ref (b 46), .ref (b 47)])), (b 8, .inl (g 0, 120, .inl (fun i => nI (TP i)))), (b 10, .inl (g 0, 120, .inl (fun i => nI (TX i)))), (b 17, .inl (g 0, 6, .inl NM))] sS H locs := (by rw [if_neg (by rw [hf9]; simp)] at G; exact G)
              rw [hf9, Bool.false_and]
              refine lv_istore (lv' := [(5, .int (zk_b false)), (6, .int r_69), (7, .int (nI 0)), (0, .ref (b 100)), (3, .int (zk_b gv)), (4, .int z)]) Z.1 Z.2.1 dX8_workOut_102 hl (by decide) rfl (fun ls hl => ?_)
              refine lv_goto (tgt := 33) Z.1 Z.2.1 dX8_workOut_104 (by decide) ?_
              refine lv_iload Z.1 Z.2.1 dX8_workOut_33 (lv_at hl 0 rfl) ?_
              refine lv_if_eq (tgt := 107) Z.1 Z.2.1 dX8_workOut_35 (by decide) (fun c35 => ?_) (fun c35 => ?_)
              · have c35 : false = false := zk_b0.mp c35
                refine lv_aload_n Z.1 Z.2.1 dX8_workOut_107 rfl (lv_at hl 3 rfl) ?_
                refine zk_get (C := RX8) (T := TX8) (N := 48) (ci := 8) Z hK G hinX8 0 rfl rfl 15 (by decide) (List.mem_cons_of_mem _ wa8_105) rfl (v := .int (nI p1_69)) rfl dX8_workOut_108 ?_
                refine lv_if_ge (tgt := 130) Z.1 Z.2.1 dX8_workOut_111 (by decide) (fun c111 => ?_) (fun c111 => ?_)
                · have c111 : 0 ≤ p1_69 := zk_le (by omega) (by omega) c111
                  refine lv_iload Z.1 Z.2.1 dX8_workOut_130 (lv_at hl 5 rfl) ?_
                  exact zk_reti Z hR_ hlk hK hQ G (zm_bs tb, nI p1_69, nI ln, nI p1_69, oq1_69) (by rw [hWO]; exact ⟨rfl, by omega⟩) rfl dX8_workOut_132
                exfalso
                have c111 : p1_69 < 0 := zk_nle (by omega) (by omega) c111
                omega
              exfalso
              have c35 : false = true := zk_b1.mp c35
              exact absurd c35 (by decide)
            exfalso
            have c78 : p1_69 < 0 := zk_nle (by omega) (by omega) c78
            omega
          · obtain ⟨h1_69, h2_69, h3_69, h4_69⟩ := zm_pr w_69 hz_69
            obtain rfl : p1_69 = a9 := h1_69
            obtain rfl : ft1_69 = -1 := h2_69
            obtain rfl : oq1_69 = nI 0 := h3_69
            obtain rfl : s9 = r_69 :: [] := h4_69
            have hb_69 := zb_69
            rw [hz_69] at hb_69
            have hp_69 : p1_69 ≤ ln := hb_69.2
            have hq_69 : p1_39 + 1 ≤ p1_69 := hb_69.1
            refine lv_istore (lv' := [(6, .int r_69), (7, .int (nI 0)), (0, .ref (b 100)), (3, .int (zk_b gv)), (4, .int z), (5, .int (zk_b true))]) Z.1 Z.2.1 dX8_workOut_72 hl (by decide) rfl (fun ls hl => ?_)
            refine lv_aload_n Z.1 Z.2.1 dX8_workOut_74 rfl (lv_at hl 2 rfl) ?_
            refine zk_get (C := RX8) (T := TX8) (N := 48) (ci := 8) Z hK G hinX8 0 rfl rfl 15 (by decide) (List.mem_cons_of_mem _ wa8_105) rfl (v := .int (-1)) rfl dX8_workOut_75 ?_
            refine lv_if_ge (tgt := 96) Z.1 Z.2.1 dX8_workOut_78 (by decide) (fun c78 => ?_) (fun c78 => ?_)
            · exfalso
              have c78 : 0 ≤ ((-1) : Int32) := c78
              exact absurd c78 (by decide)
            have c78 : ¬ 0 ≤ ((-1) : Int32) := c78
            refine lv_iload Z.1 Z.2.1 dX8_workOut_81 (lv_at hl 1 rfl) ?_
            refine lv_if_eq (tgt := 96) Z.1 Z.2.1 dX8_workOut_83 (by decide) (fun c83 => ?_) (fun c83 => ?_)
            · have c83 : 0 = 0 := zk_eq (by omega) (by omega) c83
              have hLe : zm_line (zm_tx tb TP TX) ln NM p2 = .inr (p1_69, false, r_69) := by unfold zm_line; rw [hz_39]; simp only; rw [if_pos c63_, hz_69]; exact congrArg (fun z => (Sum.inr (p1_69, z, r_69) : Nat ⊕ (Nat × Bool × Int32))) (decide_eq_false (not_not_intro (show zm_top (r_39 :: []) = 0 from c58)))
              refine lv_aload_n Z.1 Z.2.1 dX8_workOut_96 rfl (lv_at hl 2 rfl) ?_
              refine lv_bipush (v := nI 59) Z.1 Z.2.1 dX8_workOut_97 (by decide +kernel) ?_
              refine zk_ci (WF := fun (_ : Unit) => [(b 100, .inr (8, [.ref (b 0), .ref (b 1), .ref (b 2), .ref (b 3), .int (m 4), .int (m 5), .int (m 6), .int (m 7), .ref (b 8), .int (m 9), .ref (b 10), .int (m 11), .int (zm_bs tb), .int (nI (if (decide (((-1) : Int32) < 0) && decide (zg_c (zm_tx tb TP TX) ln p1_69 = 59)) = true then p1_69 + 1 else p1_69)), .int (nI ln), .int (-1), .int (nI 0), .ref (b 17), .ref (b 18), .ref (b 19), .ref (b 20), .ref (b 21), .ref (b 22), .ref (b 23), .ref (b 24), .int (m 25), .int (m 26), .int (m 27), .int (m 28), .ref (b 29), .ref (b 30), .int (m 31), .int (m 32), .int (m 33), .int (m 34), .int (m 35), .ref (b 36), .ref (b 37), .int (m 38), .ref (b 39), .ref (b 40), .int (m 41), .int (m 42), .int (m 43), .ref (b 44), .ref (b 45), .ref (b 46), .ref (b 47)])), (b 8, .inl (g 0, 120, .inl (fun i => nI (TP i)))), (b 10, .inl (g 0, 120, .inl (fun i => nI (TX i)))), (b 17, .inl (g 0, 6, .inl NM))]) (wr := [(b 17, .inl (g 0, 6, .inl NM))]) ⟨rfl, rfl⟩ (zk_rv (As := [.int (nI 59)]) (rest := []) (q0 := 0) (ci := 8) Z ((ct_X8_takes l D g τ b m ln p1_69 (-1) tb TP TX (nI 0) 59 (by exact hln) (by omega) (by exact ht) (by decide)) H.size) hK hT hA G [0, 1, 2] rfl (by decide) rfl rfl gmX8_workOut_X8_takes rfl dvX8_takes ⟨by decide, by decide⟩ rfl hl.1 rfl (Nat.le_of_ble_eq_true rfl) dX8_workOut_99 ⟨Nat.zero_le _, Nat.zero_le _⟩) hA G [0, 1, 2] [3] [1, 2, 3, 0] rfl rfl (by decide) (by decide) (by decide) (fun _ => rfl) (fun r_99 _ H locs w_99 G => ?_)
              obtain rfl : r_99 = zk_b (decide (((-1) : Int32) < 0) && decide (zg_c (zm_tx tb TP TX) ln p1_69 = 59)) := w_99
              cases hsm : (decide (((-1) : Int32) < 0) && decide (zg_c (zm_tx tb TP TX) ln p1_69 = 59))
              · have c59_ : ¬ zg_c (zm_tx tb TP TX) ln p1_69 = 59 := fun q9 => by have h9 := hsm; rw [decide_eq_true q9] at h9; exact absurd h9 (by decide)
                have G : zk_G D aA [(b 100, .inr (8, [.ref (b 0), .ref (b 1), .ref (b 2), .ref (b 3), .int (m 4), .int (m 5), .int (m 6), .int (m 7), .ref (b 8), .int (m 9), .ref (b 10), .int (m 11), .int (zm_bs tb), .int (nI p1_69), .int (nI ln), .int (-1), .int (nI 0), .ref (b 17), .ref (b 18), .ref (b 19), .ref (b 20), .ref (b 21), .ref (b 22), .ref (b 23), .ref (b 24), .int (m 25), .int (m 26), .int (m 27), .int (m 28), .ref (b 29), .ref (b 30), .int (m 31), .int (m 32), .int (m 33), .int (m 34), .int (m 35), .ref (b 36), .ref (b 37), .int (m 38), .ref (b 39), .ref (b 40), .int (m 41), .int (m 42), .int (m 43), .ref (b 44), .ref (b 45), .ref (b 46), .ref (b 47)])), (b 8, .inl (g 0, 120, .inl (fun i => nI (TP i)))), (b 10, .inl (g 0, 120, .inl (fun i => nI (TX i)))), (b 17, .inl (g 0, 6, .inl NM))] sS H locs := (by rw [if_neg (by rw [hsm]; decide)] at G; exact G)
                obtain ⟨f9, rfl⟩ : ∃ f9, f = f9 + 1 := ⟨f - 1, by omega⟩
                have hWO : (if p1_69 < ln then Sum.inl p1_69 else Sum.inr z) = zm_wo (zm_tx tb TP TX) ln NM := by rw [← hs]; simp only [zm_lns]; rw [hLe]; simp only; rw [if_neg c59_]; simp
                refine lv_istore (lv' := [(5, .int (zk_b false)), (6, .int r_69), (7, .int (nI 0)), (0, .ref (b 100)), (3, .int (zk_b gv)), (4, .int z)]) Z.1 Z.2.1 dX8_workOut_102 hl (by decide) rfl (fun ls hl => ?_)
                refine lv_goto (tgt := 33) Z.1 Z.2.1 dX8_workOut_104 (by decide) ?_
                refine lv_iload Z.1 Z.2.1 dX8_workOut_33 (lv_at hl 0 rfl) ?_
                refine lv_if_eq (tgt := 107) Z.1 Z.2.1 dX8_workOut_35 (by decide) (fun c35 => ?_) (fun c35 => ?_)
                · have c35 : false = false := zk_b0.mp c35
                  refine lv_aload_n Z.1 Z.2.1 dX8_workOut_107 rfl (lv_at hl 3 rfl) ?_
                  refine zk_get (C := RX8) (T := TX8) (N := 48) (ci := 8) Z hK G hinX8 0 rfl rfl 15 (by decide) (List.mem_cons_of_mem _ wa8_105) rfl (v := .int (-1)) rfl dX8_workOut_108 ?_
                  refine lv_if_ge (tgt := 130) Z.1 Z.2.1 dX8_workOut_111 (by decide) (fun c111 => ?_) (fun c111 => ?_)
                  · exfalso
                    have c111 : 0 ≤ ((-1) : Int32) := c111
                    exact absurd c111 (by decide)
                  have c111 : ¬ 0 ≤ ((-1) : Int32) := c111
                  refine lv_aload_n Z.1 Z.2.1 dX8_workOut_114 rfl (lv_at hl 3 rfl) ?_
                  refine zk_get (C := RX8) (T := TX8) (N := 48) (ci := 8) Z hK G hinX8 0 rfl rfl 13 (by decide) (List.mem_cons_of_mem _ wa8_101) rfl (v := .int (nI p1_69)) rfl dX8_workOut_115 ?_
                  refine lv_aload_n Z.1 Z.2.1 dX8_workOut_118 rfl (lv_at hl 3 rfl) ?_
                  refine zk_get (C := RX8) (T := TX8) (N := 48) (ci := 8) Z hK G hinX8 0 rfl rfl 14 (by decide) (List.mem_cons_of_mem _ wa8_102) rfl (v := .int (nI ln)) rfl dX8_workOut_119 ?_
                  refine lv_icmp_ge (tgt := 130) Z.1 Z.2.1 dX8_workOut_122 (by decide) (fun c122 => ?_) (fun c122 => ?_)
                  · have c122 : ln ≤ p1_69 := zk_le (by omega) (by omega) c122
                    refine lv_iload Z.1 Z.2.1 dX8_workOut_130 (lv_at hl 5 rfl) ?_
                    exact zk_reti Z hR_ hlk hK hQ G (zm_bs tb, nI p1_69, nI ln, (-1), nI 0) (by rw [← hWO, if_neg (Nat.not_lt.mpr c122)]; exact ⟨rfl, rfl⟩) rfl dX8_workOut_132
                  have c122 : p1_69 < ln := zk_nle (by omega) (by omega) c122
                  refine lv_aload_n Z.1 Z.2.1 dX8_workOut_125 rfl (lv_at hl 3 rfl) ?_
                  refine zk_ci (WF := fun (_ : Unit) => [(b 100, .inr (8, [.ref (b 0), .ref (b 1), .ref (b 2), .ref (b 3), .int (m 4), .int (m 5), .int (m 6), .int (m 7), .ref (b 8), .int (m 9), .ref (b 10), .int (m 11), .int (zm_bs tb), .int (nI p1_69), .int (nI ln), .int (if (-1) < 0 then nI p1_69 else (-1)), .int (nI 0), .ref (b 17), .ref (b 18), .ref (b 19), .ref (b 20), .ref (b 21), .ref (b 22), .ref (b 23), .ref (b 24), .int (m 25), .int (m 26), .int (m 27), .int (m 28), .ref (b 29), .ref (b 30), .int (m 31), .int (m 32), .int (m 33), .int (m 34), .int (m 35), .ref (b 36), .ref (b 37), .int (m 38), .ref (b 39), .ref (b 40), .int (m 41), .int (m 42), .int (m 43), .ref (b 44), .ref (b 45), .ref (b 46), .ref (b 47)])), (b 8, .inl (g 0, 120, .inl (fun i => nI (TP i)))), (b 10, .inl (g 0, 120, .inl (fun i => nI (TX i)))), (b 17, .inl (g 0, 6, .inl NM))]) (wr := [(b 8, .inl (g 0, 120, .inl (fun i => nI (TP i)))), (b 10, .inl (g 0, 120, .inl (fun i => nI (TX i)))), (b 17, .inl (g 0, 6, .inl NM))]) ⟨rfl, rfl⟩ (zk_rv (As := []) (rest := []) (q0 := 0) (ci := 8) Z ((ct_X8_wrong l D g τ b m ln p1_69 (-1) tb (nI 0) ) H.size) hK hT hA G [0] rfl (by decide) rfl rfl gmX8_workOut_X8_wrong rfl dvX8_wrong ⟨by decide, by decide⟩ rfl hl.1 rfl (Nat.le_of_ble_eq_true rfl) dX8_workOut_126 ⟨Nat.zero_le _, Nat.zero_le _⟩) hA G [0] [1, 2, 3] [3, 0, 1, 2] rfl rfl (by decide) (by decide) (by decide) (fun _ => rfl) (fun r_126 _ H locs w_126 G => ?_)
                  obtain rfl : r_126 = nI 0 := w_126
                  have G : zk_G D aA [(b 100, .inr (8, [.ref (b 0), .ref (b 1), .ref (b 2), .ref (b 3), .int (m 4), .int (m 5), .int (m 6), .int (m 7), .ref (b 8), .int (m 9), .ref (b 10), .int (m 11), .int (zm_bs tb), .int (nI p1_69), .int (nI ln), .int (nI p1_69), .int (nI 0), .ref (b 17), .ref (b 18), .ref (b 19), .ref (b 20), .ref (b 21), .ref (b 22), .ref (b 23), .ref (b 24), .int (m 25), .int (m 26), .int (m 27), .int (m 28), .ref (b 29), .ref (b 30), .int (m 31), .int (m 32), .int (m 33), .int (m 34), .int (m 35), .ref (b 36), .ref (b 37), .int (m 38), .ref (b 39), .ref (b 40), .int (m 41), .int (m 42), .int (m 43), .ref (b 44), .ref (b 45), .ref (b 46), .ref (b 47)])), (b 8, .inl (g 0, 120, .inl (fun i => nI (TP i)))), (b 10, .inl (g 0, 120, .inl (fun i => nI (TX i)))), (b 17, .inl (g 0, 6, .inl NM))] sS H locs := (by rw [if_pos (by decide)] at G; exact G)
                  exact zk_reti Z hR_ hlk hK hQ G (zm_bs tb, nI p1_69, nI ln, nI p1_69, nI 0) (by rw [← hWO, if_pos c122]; exact ⟨rfl, by omega⟩) rfl dX8_workOut_129
                exfalso
                have c35 : false = true := zk_b1.mp c35
                exact absurd c35 (by decide)
              · have c59_ : zg_c (zm_tx tb TP TX) ln p1_69 = 59 := of_decide_eq_true (Bool.and_eq_true _ _ ▸ hsm).2
                have hpl9 : p1_69 < ln := zg_c_lt (tp := (zm_tx tb TP TX)) (by omega)
                have G : zk_G D aA [(b 100, .inr (8, [.ref (b 0), .ref (b 1), .ref (b 2), .ref (b 3), .int (m 4), .int (m 5), .int (m 6), .int (m 7), .ref (b 8), .int (m 9), .ref (b 10), .int (m 11), .int (zm_bs tb), .int (nI (p1_69 + 1)), .int (nI ln), .int (-1), .int (nI 0), .ref (b 17), .ref (b 18), .ref (b 19), .ref (b 20), .ref (b 21), .ref (b 22), .ref (b 23), .ref (b 24), .int (m 25), .int (m 26), .int (m 27), .int (m 28), .ref (b 29), .ref (b 30), .int (m 31), .int (m 32), .int (m 33), .int (m 34), .int (m 35), .ref (b 36), .ref (b 37), .int (m 38), .ref (b 39), .ref (b 40), .int (m 41), .int (m 42), .int (m 43), .ref (b 44), .ref (b 45), .ref (b 46), .ref (b 47)])), (b 8, .inl (g 0, 120, .inl (fun i => nI (TP i)))), (b 10, .inl (g 0, 120, .inl (fun i => nI (TX i)))), (b 17, .inl (g 0, 6, .inl NM))] sS H locs := (by rw [if_pos hsm] at G; exact G)
                obtain ⟨f9, rfl⟩ : ∃ f9, f = f9 + 1 := ⟨f - 1, by omega⟩
                have hs2 : (match zm_lns (zm_tx tb TP TX) ln NM f9 (p1_69 + 1) gv z with | .inl e => Sum.inl e | .inr q => if q.1 < ln then Sum.inl q.1 else Sum.inr q.2) = zm_wo (zm_tx tb TP TX) ln NM := by rw [← hs]; simp only [zm_lns]; rw [hLe]; simp only; rw [if_pos c59_]; simp
                refine lv_istore (lv' := [(5, .int (zk_b true)), (6, .int r_69), (7, .int (nI 0)), (0, .ref (b 100)), (3, .int (zk_b gv)), (4, .int z)]) Z.1 Z.2.1 dX8_workOut_102 hl (by decide) rfl (fun ls hl => ?_)
                refine lv_goto (tgt := 33) Z.1 Z.2.1 dX8_workOut_104 (by decide) ?_
                exact ih33 (p1_69 + 1) gv z f9 (by omega) (by omega) (by omega) (by exact hs2) _ _ _ G (lv_sub hl [3, 4, 5, 0] rfl)
            exfalso
            have c83 : 0 ≠ 0 := zk_neq (by omega) (by omega) c83
            omega
        have c58 : ¬ r_39 = 0 := c58
        refine lv_iconst (v := nI 1) Z.1 Z.2.1 dX8_workOut_61 (by decide +kernel) ?_
        refine lv_goto (tgt := 66) Z.1 Z.2.1 dX8_workOut_62 (by decide) ?_
        refine lv_istore (lv' := [(7, .int (nI 1)), (6, .int r_39), (0, .ref (b 100)), (3, .int (zk_b gv)), (4, .int z), (5, .int (zk_b true))]) Z.1 Z.2.1 dX8_workOut_66 hl (by decide) rfl (fun ls hl => ?_)
        refine lv_aload_n Z.1 Z.2.1 dX8_workOut_68 rfl (lv_at hl 2 rfl) ?_
        refine zk_ci (WF := fun uu => [(b 100, .inr (8, [.ref (b 0), .ref (b 1), .ref (b 2), .ref (b 3), .int (m 4), .int (m 5), .int (m 6), .int (m 7), .ref (b 8), .int (m 9), .ref (b 10), .int (m 11), .int (zm_bs tb), .int (nI uu.1), .int (nI ln), .int uu.2.1, .int uu.2.2, .ref (b 17), .ref (b 18), .ref (b 19), .ref (b 20), .ref (b 21), .ref (b 22), .ref (b 23), .ref (b 24), .int (m 25), .int (m 26), .int (m 27), .int (m 28), .ref (b 29), .ref (b 30), .int (m 31), .int (m 32), .int (m 33), .int (m 34), .int (m 35), .ref (b 36), .ref (b 37), .int (m 38), .ref (b 39), .ref (b 40), .int (m 41), .int (m 42), .int (m 43), .ref (b 44), .ref (b 45), .ref (b 46), .ref (b 47)])), (b 8, .inl (g 0, 120, .inl (fun i => nI (TP i)))), (b 10, .inl (g 0, 120, .inl (fun i => nI (TX i)))), (b 17, .inl (g 0, 6, .inl NM))]) (wr := []) ⟨rfl, rfl⟩ (zk_rv (As := []) (rest := []) (q0 := 0) (ci := 8) Z (((zm_allL l D g τ 42).1 b m ln (p1_39 + 1) 0 tb TP TX NM ([]) (by exact hln) (by omega) (by exact ht) (by decide) (by decide)) H.size) hK hT hA G [0, 1, 2, 3] rfl (by decide) rfl rfl gmX8_workOut_X8_either rfl dvX8_either ⟨by decide, by decide⟩ rfl hl.1 rfl (Nat.le_of_ble_eq_true rfl) dX8_workOut_69 ⟨Nat.zero_le _, Nat.zero_le _⟩) hA G [0, 1, 2, 3] [] [0, 1, 2, 3] rfl rfl (by decide) (by decide) (by decide) (fun _ => rfl) (fun r_69 uu H locs w_69 G => ?_)
        obtain ⟨p1_69, ft1_69, oq1_69⟩ := uu
        have G : zk_G D aA [(b 100, .inr (8, [.ref (b 0), .ref (b 1), .ref (b 2), .ref (b 3), .int (m 4), .int (m 5), .int (m 6), .int (m 7), .ref (b 8), .int (m 9), .ref (b 10), .int (m 11), .int (zm_bs tb), .int (nI p1_69), .int (nI ln), .int ft1_69, .int oq1_69, .ref (b 17), .ref (b 18), .ref (b 19), .ref (b 20), .ref (b 21), .ref (b 22), .ref (b 23), .ref (b 24), .int (m 25), .int (m 26), .int (m 27), .int (m 28), .ref (b 29), .ref (b 30), .int (m 31), .int (m 32), .int (m 33), .int (m 34), .int (m 35), .ref (b 36), .ref (b 37), .int (m 38), .ref (b 39), .ref (b 40), .int (m 41), .int (m 42), .int (m 43), .ref (b 44), .ref (b 45), .ref (b 46), .ref (b 47)])), (b 8, .inl (g 0, 120, .inl (fun i => nI (TP i)))), (b 10, .inl (g 0, 120, .inl (fun i => nI (TX i)))), (b 17, .inl (g 0, 6, .inl NM))] sS H locs := G
        have zb_69 := zg_le (em := zm_em NM) (ln := ln) ht 42 0 0 (p1_39 + 1) [] (by omega) (by decide) (by decide) (by decide)
        rcases hz_69 : zg (zm_tx tb TP TX) ln (zm_em NM) 42 0 0 (p1_39 + 1) [] with e | ⟨a9, s9⟩
        · obtain ⟨h1_69, h2_69⟩ := zm_pl w_69 hz_69
          obtain rfl : p1_69 = e := h1_69
          obtain rfl : ft1_69 = nI p1_69 := h2_69
          have hb_69 := zb_69
          rw [hz_69] at hb_69
          have hp_69 : p1_69 ≤ ln := hb_69.2
          have hLe : zm_line (zm_tx tb TP TX) ln NM p2 = .inl p1_69 := by unfold zm_line; rw [hz_39]; simp only; rw [if_pos c63_, hz_69]
          obtain ⟨f9, rfl⟩ : ∃ f9, f = f9 + 1 := ⟨f - 1, by omega⟩
          have hWO : zm_wo (zm_tx tb TP TX) ln NM = .inl p1_69 := by rw [← hs]; simp only [zm_lns]; rw [hLe]
          refine lv_istore (lv' := [(6, .int r_69), (7, .int (nI 1)), (0, .ref (b 100)), (3, .int (zk_b gv)), (4, .int z), (5, .int (zk_b true))]) Z.1 Z.2.1 dX8_workOut_72 hl (by decide) rfl (fun ls hl => ?_)
          refine lv_aload_n Z.1 Z.2.1 dX8_workOut_74 rfl (lv_at hl 2 rfl) ?_
          refine zk_get (C := RX8) (T := TX8) (N := 48) (ci := 8) Z hK G hinX8 0 rfl rfl 15 (by decide) (List.mem_cons_of_mem _ wa8_105) rfl (v := .int (nI p1_69)) rfl dX8_workOut_75 ?_
          refine lv_if_ge (tgt := 96) Z.1 Z.2.1 dX8_workOut_78 (by decide) (fun c78 => ?_) (fun c78 => ?_)
          · have c78 : 0 ≤ p1_69 := zk_le (by omega) (by omega) c78
            refine lv_aload_n Z.1 Z.2.1 dX8_workOut_96 rfl (lv_at hl 2 rfl) ?_
            refine lv_bipush (v := nI 59) Z.1 Z.2.1 dX8_workOut_97 (by decide +kernel) ?_
            refine zk_ci (WF := fun (_ : Unit) => [(b 100, .inr (8, [.ref (b 0), .ref (b 1), .ref (b 2), .ref (b 3), .int (m 4), .int (m 5), .int (m 6), .int (m 7), .ref (b 8), .int (m 9), .ref (b 10), .int (m 11), .int (zm_bs tb), .int (nI (if (decide ((nI p1_69 : Int32) < 0) && decide (zg_c (zm_tx tb TP TX) ln p1_69 = 59)) = true then p1_69 + 1 else p1_69)), .int (nI ln), .int (nI p1_69), .int oq1_69, .ref (b 17), .ref (b 18), .ref (b 19), .ref (b 20), .ref (b 21), .ref (b 22), .ref (b 23), .ref (b 24), .int (m 25), .int (m 26), .int (m 27), .int (m 28), .ref (b 29), .ref (b 30), .int (m 31), .int (m 32), .int (m 33), .int (m 34), .int (m 35), .ref (b 36), .ref (b 37), .int (m 38), .ref (b 39), .ref (b 40), .int (m 41), .int (m 42), .int (m 43), .ref (b 44), .ref (b 45), .ref (b 46), .ref (b 47)])), (b 8, .inl (g 0, 120, .inl (fun i => nI (TP i)))), (b 10, .inl (g 0, 120, .inl (fun i => nI (TX i)))), (b 17, .inl (g 0, 6, .inl NM))]) (wr := [(b 17, .inl (g 0, 6, .inl NM))]) ⟨rfl, rfl⟩ (zk_rv (As := [.int (nI 59)]) (rest := []) (q0 := 0) (ci := 8) Z ((ct_X8_takes l D g τ b m ln p1_69 (nI p1_69) tb TP TX oq1_69 59 (by exact hln) (by omega) (by exact ht) (by decide)) H.size) hK hT hA G [0, 1, 2] rfl (by decide) rfl rfl gmX8_workOut_X8_takes rfl dvX8_takes ⟨by decide, by decide⟩ rfl hl.1 rfl (Nat.le_of_ble_eq_true rfl) dX8_workOut_99 ⟨Nat.zero_le _, Nat.zero_le _⟩) hA G [0, 1, 2] [3] [1, 2, 3, 0] rfl rfl (by decide) (by decide) (by decide) (fun _ => rfl) (fun r_99 _ H locs w_99 G => ?_)
            obtain rfl : r_99 = zk_b (decide ((nI p1_69 : Int32) < 0) && decide (zg_c (zm_tx tb TP TX) ln p1_69 = 59)) := w_99
            have hf9 := zm_fl (show p1_69 < 2 ^ 31 by omega)
            have G : zk_G D aA [(b 100, .inr (8, [.ref (b 0), .ref (b 1), .ref (b 2), .ref (b 3), .int (m 4), .int (m 5), .int (m 6), .int (m 7), .ref (b 8), .int (m 9), .ref (b 10), .int (m 11), .int (zm_bs tb), .int (nI p1_69), .int (nI ln), .int (nI p1_69), .int oq1_69, .ref (b 17), .ref (b 18), .ref (b 19), .ref (b 20), .ref (b 21), .ref (b 22), .ref (b 23), .ref (b 24), .int (m 25), .int (m 26), .int (m 27), .int (m 28), .ref (b 29), .ref (b 30), .int (m 31), .int (m 32), .int (m 33), .int (m 34), .int (m 35), .ref (b 36), .ref (b 37), .int (m 38), .ref (b 39), .ref (b 40), .int (m 41), .int (m 42), .int (m 43), .ref (b 44), .ref (b 45), .ref (b 46), .ref (b 47)])), (b 8, .inl (g 0, 120, .inl (fun i => nI (TP i)))), (b 10, .inl (g 0, 120, .inl (fun i => nI (TX i)))), (b 17, .inl (g 0, 6, .inl NM))] sS H locs := (by rw [if_neg (by rw [hf9]; simp)] at G; exact G)
            rw [hf9, Bool.false_and]
            refine lv_istore (lv' := [(5, .int (zk_b false)), (6, .int r_69), (7, .int (nI 1)), (0, .ref (b 100)), (3, .int (zk_b gv)), (4, .int z)]) Z.1 Z.2.1 dX8_workOut_102 hl (by decide) rfl (fun ls hl => ?_)
            refine lv_goto (tgt := 33) Z.1 Z.2.1 dX8_workOut_104 (by decide) ?_
            refine lv_iload Z.1 Z.2.1 dX8_workOut_33 (lv_at hl 0 rfl) ?_
            refine lv_if_eq (tgt := 107) Z.1 Z.2.1 dX8_workOut_35 (by decide) (fun c35 => ?_) (fun c35 => ?_)
            · have c35 : false = false := zk_b0.mp c35
              refine lv_aload_n Z.1 Z.2.1 dX8_workOut_107 rfl (lv_at hl 3 rfl) ?_
              refine zk_get (C := RX8) (T := TX8) (N := 48) (ci := 8) Z hK G hinX8 0 rfl rfl 15 (by decide) (List.mem_cons_of_mem _ wa8_105) rfl (v := .int (nI p1_69)) rfl dX8_workOut_108 ?_
              refine lv_if_ge (tgt := 130) Z.1 Z.2.1 dX8_workOut_111 (by decide) (fun c111 => ?_) (fun c111 => ?_)
              · have c111 : 0 ≤ p1_69 := zk_le (by omega) (by omega) c111
                refine lv_iload Z.1 Z.2.1 dX8_workOut_130 (lv_at hl 5 rfl) ?_
                exact zk_reti Z hR_ hlk hK hQ G (zm_bs tb, nI p1_69, nI ln, nI p1_69, oq1_69) (by rw [hWO]; exact ⟨rfl, by omega⟩) rfl dX8_workOut_132
              exfalso
              have c111 : p1_69 < 0 := zk_nle (by omega) (by omega) c111
              omega
            exfalso
            have c35 : false = true := zk_b1.mp c35
            exact absurd c35 (by decide)
          exfalso
          have c78 : p1_69 < 0 := zk_nle (by omega) (by omega) c78
          omega
        · obtain ⟨h1_69, h2_69, h3_69, h4_69⟩ := zm_pr w_69 hz_69
          obtain rfl : p1_69 = a9 := h1_69
          obtain rfl : ft1_69 = -1 := h2_69
          obtain rfl : oq1_69 = nI 0 := h3_69
          obtain rfl : s9 = r_69 :: [] := h4_69
          have hb_69 := zb_69
          rw [hz_69] at hb_69
          have hp_69 : p1_69 ≤ ln := hb_69.2
          have hq_69 : p1_39 + 1 ≤ p1_69 := hb_69.1
          refine lv_istore (lv' := [(6, .int r_69), (7, .int (nI 1)), (0, .ref (b 100)), (3, .int (zk_b gv)), (4, .int z), (5, .int (zk_b true))]) Z.1 Z.2.1 dX8_workOut_72 hl (by decide) rfl (fun ls hl => ?_)
          refine lv_aload_n Z.1 Z.2.1 dX8_workOut_74 rfl (lv_at hl 2 rfl) ?_
          refine zk_get (C := RX8) (T := TX8) (N := 48) (ci := 8) Z hK G hinX8 0 rfl rfl 15 (by decide) (List.mem_cons_of_mem _ wa8_105) rfl (v := .int (-1)) rfl dX8_workOut_75 ?_
          refine lv_if_ge (tgt := 96) Z.1 Z.2.1 dX8_workOut_78 (by decide) (fun c78 => ?_) (fun c78 => ?_)
          · exfalso
            have c78 : 0 ≤ ((-1) : Int32) := c78
            exact absurd c78 (by decide)
          have c78 : ¬ 0 ≤ ((-1) : Int32) := c78
          refine lv_iload Z.1 Z.2.1 dX8_workOut_81 (lv_at hl 1 rfl) ?_
          refine lv_if_eq (tgt := 96) Z.1 Z.2.1 dX8_workOut_83 (by decide) (fun c83 => ?_) (fun c83 => ?_)
          · exfalso
            have c83 : 1 = 0 := zk_eq (by omega) (by omega) c83
            omega
          have c83 : 1 ≠ 0 := zk_neq (by omega) (by omega) c83
          refine lv_iload_n Z.1 Z.2.1 dX8_workOut_86 rfl (lv_at hl 3 rfl) ?_
          refine lv_if_ne (tgt := 96) Z.1 Z.2.1 dX8_workOut_87 (by decide) (fun c87 => ?_) (fun c87 => ?_)
          · have c87 : gv = true := zk_b1.mp c87
            have hLe : zm_line (zm_tx tb TP TX) ln NM p2 = .inr (p1_69, true, r_69) := by unfold zm_line; rw [hz_39]; simp only; rw [if_pos c63_, hz_69]; exact congrArg (fun z => (Sum.inr (p1_69, z, r_69) : Nat ⊕ (Nat × Bool × Int32))) (decide_eq_true (show ¬ zm_top (r_39 :: []) = 0 from c58))
            refine lv_aload_n Z.1 Z.2.1 dX8_workOut_96 rfl (lv_at hl 2 rfl) ?_
            refine lv_bipush (v := nI 59) Z.1 Z.2.1 dX8_workOut_97 (by decide +kernel) ?_
            refine zk_ci (WF := fun (_ : Unit) => [(b 100, .inr (8, [.ref (b 0), .ref (b 1), .ref (b 2), .ref (b 3), .int (m 4), .int (m 5), .int (m 6), .int (m 7), .ref (b 8), .int (m 9), .ref (b 10), .int (m 11), .int (zm_bs tb), .int (nI (if (decide (((-1) : Int32) < 0) && decide (zg_c (zm_tx tb TP TX) ln p1_69 = 59)) = true then p1_69 + 1 else p1_69)), .int (nI ln), .int (-1), .int (nI 0), .ref (b 17), .ref (b 18), .ref (b 19), .ref (b 20), .ref (b 21), .ref (b 22), .ref (b 23), .ref (b 24), .int (m 25), .int (m 26), .int (m 27), .int (m 28), .ref (b 29), .ref (b 30), .int (m 31), .int (m 32), .int (m 33), .int (m 34), .int (m 35), .ref (b 36), .ref (b 37), .int (m 38), .ref (b 39), .ref (b 40), .int (m 41), .int (m 42), .int (m 43), .ref (b 44), .ref (b 45), .ref (b 46), .ref (b 47)])), (b 8, .inl (g 0, 120, .inl (fun i => nI (TP i)))), (b 10, .inl (g 0, 120, .inl (fun i => nI (TX i)))), (b 17, .inl (g 0, 6, .inl NM))]) (wr := [(b 17, .inl (g 0, 6, .inl NM))]) ⟨rfl, rfl⟩ (zk_rv (As := [.int (nI 59)]) (rest := []) (q0 := 0) (ci := 8) Z ((ct_X8_takes l D g τ b m ln p1_69 (-1) tb TP TX (nI 0) 59 (by exact hln) (by omega) (by exact ht) (by decide)) H.size) hK hT hA G [0, 1, 2] rfl (by decide) rfl rfl gmX8_workOut_X8_takes rfl dvX8_takes ⟨by decide, by decide⟩ rfl hl.1 rfl (Nat.le_of_ble_eq_true rfl) dX8_workOut_99 ⟨Nat.zero_le _, Nat.zero_le _⟩) hA G [0, 1, 2] [3] [1, 2, 3, 0] rfl rfl (by decide) (by decide) (by decide) (fun _ => rfl) (fun r_99 _ H locs w_99 G => ?_)
            obtain rfl : r_99 = zk_b (decide (((-1) : Int32) < 0) && decide (zg_c (zm_tx tb TP TX) ln p1_69 = 59)) := w_99
            cases hsm : (decide (((-1) : Int32) < 0) && decide (zg_c (zm_tx tb TP TX) ln p1_69 = 59))
            · have c59_ : ¬ zg_c (zm_tx tb TP TX) ln p1_69 = 59 := fun q9 => by have h9 := hsm; rw [decide_eq_true q9] at h9; exact absurd h9 (by decide)
              have G : zk_G D aA [(b 100, .inr (8, [.ref (b 0), .ref (b 1), .ref (b 2), .ref (b 3), .int (m 4), .int (m 5), .int (m 6), .int (m 7), .ref (b 8), .int (m 9), .ref (b 10), .int (m 11), .int (zm_bs tb), .int (nI p1_69), .int (nI ln), .int (-1), .int (nI 0), .ref (b 17), .ref (b 18), .ref (b 19), .ref (b 20), .ref (b 21), .ref (b 22), .ref (b 23), .ref (b 24), .int (m 25), .int (m 26), .int (m 27), .int (m 28), .ref (b 29), .ref (b 30), .int (m 31), .int (m 32), .int (m 33), .int (m 34), .int (m 35), .ref (b 36), .ref (b 37), .int (m 38), .ref (b 39), .ref (b 40), .int (m 41), .int (m 42), .int (m 43), .ref (b 44), .ref (b 45), .ref (b 46), .ref (b 47)])), (b 8, .inl (g 0, 120, .inl (fun i => nI (TP i)))), (b 10, .inl (g 0, 120, .inl (fun i => nI (TX i)))), (b 17, .inl (g 0, 6, .inl NM))] sS H locs := (by rw [if_neg (by rw [hsm]; decide)] at G; exact G)
              obtain ⟨f9, rfl⟩ : ∃ f9, f = f9 + 1 := ⟨f - 1, by omega⟩
              have hWO : (if p1_69 < ln then Sum.inl p1_69 else Sum.inr z) = zm_wo (zm_tx tb TP TX) ln NM := by rw [← hs]; simp only [zm_lns]; rw [hLe]; simp only; rw [if_neg c59_]; rw [c87]; rfl
              refine lv_istore (lv' := [(5, .int (zk_b false)), (6, .int r_69), (7, .int (nI 1)), (0, .ref (b 100)), (3, .int (zk_b gv)), (4, .int z)]) Z.1 Z.2.1 dX8_workOut_102 hl (by decide) rfl (fun ls hl => ?_)
              refine lv_goto (tgt := 33) Z.1 Z.2.1 dX8_workOut_104 (by decide) ?_
              refine lv_iload Z.1 Z.2.1 dX8_workOut_33 (lv_at hl 0 rfl) ?_
              refine lv_if_eq (tgt := 107) Z.1 Z.2.1 dX8_workOut_35 (by decide) (fun c35 => ?_) (fun c35 => ?_)
              · have c35 : false = false := zk_b0.mp c35
                refine lv_aload_n Z.1 Z.2.1 dX8_workOut_107 rfl (lv_at hl 3 rfl) ?_
                refine zk_get (C := RX8) (T := TX8) (N := 48) (ci := 8) Z hK G hinX8 0 rfl rfl 15 (by decide) (List.mem_cons_of_mem _ wa8_105) rfl (v := .int (-1)) rfl dX8_workOut_108 ?_
                refine lv_if_ge (tgt := 130) Z.1 Z.2.1 dX8_workOut_111 (by decide) (fun c111 => ?_) (fun c111 => ?_)
                · exfalso
                  have c111 : 0 ≤ ((-1) : Int32) := c111
                  exact absurd c111 (by decide)
                have c111 : ¬ 0 ≤ ((-1) : Int32) := c111
                refine lv_aload_n Z.1 Z.2.1 dX8_workOut_114 rfl (lv_at hl 3 rfl) ?_
                refine zk_get (C := RX8) (T := TX8) (N := 48) (ci := 8) Z hK G hinX8 0 rfl rfl 13 (by decide) (List.mem_cons_of_mem _ wa8_101) rfl (v := .int (nI p1_69)) rfl dX8_workOut_115 ?_
                refine lv_aload_n Z.1 Z.2.1 dX8_workOut_118 rfl (lv_at hl 3 rfl) ?_
                refine zk_get (C := RX8) (T := TX8) (N := 48) (ci := 8) Z hK G hinX8 0 rfl rfl 14 (by decide) (List.mem_cons_of_mem _ wa8_102) rfl (v := .int (nI ln)) rfl dX8_workOut_119 ?_
                refine lv_icmp_ge (tgt := 130) Z.1 Z.2.1 dX8_workOut_122 (by decide) (fun c122 => ?_) (fun c122 => ?_)
                · have c122 : ln ≤ p1_69 := zk_le (by omega) (by omega) c122
                  refine lv_iload Z.1 Z.2.1 dX8_workOut_130 (lv_at hl 5 rfl) ?_
                  exact zk_reti Z hR_ hlk hK hQ G (zm_bs tb, nI p1_69, nI ln, (-1), nI 0) (by rw [← hWO, if_neg (Nat.not_lt.mpr c122)]; exact ⟨rfl, rfl⟩) rfl dX8_workOut_132
                have c122 : p1_69 < ln := zk_nle (by omega) (by omega) c122
                refine lv_aload_n Z.1 Z.2.1 dX8_workOut_125 rfl (lv_at hl 3 rfl) ?_
                refine zk_ci (WF := fun (_ : Unit) => [(b 100, .inr (8, [.ref (b 0), .ref (b 1), .ref (b 2), .ref (b 3), .int (m 4), .int (m 5), .int (m 6), .int (m 7), .ref (b 8), .int (m 9), .ref (b 10), .int (m 11), .int (zm_bs tb), .int (nI p1_69), .int (nI ln), .int (if (-1) < 0 then nI p1_69 else (-1)), .int (nI 0), .ref (b 17), .ref (b 18), .ref (b 19), .ref (b 20), .ref (b 21), .ref (b 22), .ref (b 23), .ref (b 24), .int (m 25), .int (m 26), .int (m 27), .int (m 28), .ref (b 29), .ref (b 30), .int (m 31), .int (m 32), .int (m 33), .int (m 34), .int (m 35), .ref (b 36), .ref (b 37), .int (m 38), .ref (b 39), .ref (b 40), .int (m 41), .int (m 42), .int (m 43), .ref (b 44), .ref (b 45), .ref (b 46), .ref (b 47)])), (b 8, .inl (g 0, 120, .inl (fun i => nI (TP i)))), (b 10, .inl (g 0, 120, .inl (fun i => nI (TX i)))), (b 17, .inl (g 0, 6, .inl NM))]) (wr := [(b 8, .inl (g 0, 120, .inl (fun i => nI (TP i)))), (b 10, .inl (g 0, 120, .inl (fun i => nI (TX i)))), (b 17, .inl (g 0, 6, .inl NM))]) ⟨rfl, rfl⟩ (zk_rv (As := []) (rest := []) (q0 := 0) (ci := 8) Z ((ct_X8_wrong l D g τ b m ln p1_69 (-1) tb (nI 0) ) H.size) hK hT hA G [0] rfl (by decide) rfl rfl gmX8_workOut_X8_wrong rfl dvX8_wrong ⟨by decide, by decide⟩ rfl hl.1 rfl (Nat.le_of_ble_eq_true rfl) dX8_workOut_126 ⟨Nat.zero_le _, Nat.zero_le _⟩) hA G [0] [1, 2, 3] [3, 0, 1, 2] rfl rfl (by decide) (by decide) (by decide) (fun _ => rfl) (fun r_126 _ H locs w_126 G => ?_)
                obtain rfl : r_126 = nI 0 := w_126
                have G : zk_G D aA [(b 100, .inr (8, [.ref (b 0), .ref (b 1), .ref (b 2), .ref (b 3), .int (m 4), .int (m 5), .int (m 6), .int (m 7), .ref (b 8), .int (m 9), .ref (b 10), .int (m 11), .int (zm_bs tb), .int (nI p1_69), .int (nI ln), .int (nI p1_69), .int (nI 0), .ref (b 17), .ref (b 18), .ref (b 19), .ref (b 20), .ref (b 21), .ref (b 22), .ref (b 23), .ref (b 24), .int (m 25), .int (m 26), .int (m 27), .int (m 28), .ref (b 29), .ref (b 30), .int (m 31), .int (m 32), .int (m 33), .int (m 34), .int (m 35), .ref (b 36), .ref (b 37), .int (m 38), .ref (b 39), .ref (b 40), .int (m 41), .int (m 42), .int (m 43), .ref (b 44), .ref (b 45), .ref (b 46), .ref (b 47)])), (b 8, .inl (g 0, 120, .inl (fun i => nI (TP i)))), (b 10, .inl (g 0, 120, .inl (fun i => nI (TX i)))), (b 17, .inl (g 0, 6, .inl NM))] sS H locs := (by rw [if_pos (by decide)] at G; exact G)
                exact zk_reti Z hR_ hlk hK hQ G (zm_bs tb, nI p1_69, nI ln, nI p1_69, nI 0) (by rw [← hWO, if_pos c122]; exact ⟨rfl, by omega⟩) rfl dX8_workOut_129
              exfalso
              have c35 : false = true := zk_b1.mp c35
              exact absurd c35 (by decide)
            · have c59_ : zg_c (zm_tx tb TP TX) ln p1_69 = 59 := of_decide_eq_true (Bool.and_eq_true _ _ ▸ hsm).2
              have hpl9 : p1_69 < ln := zg_c_lt (tp := (zm_tx tb TP TX)) (by omega)
              have G : zk_G D aA [(b 100, .inr (8, [.ref (b 0), .ref (b 1), .ref (b 2), .ref (b 3), .int (m 4), .int (m 5), .int (m 6), .int (m 7), .ref (b 8), .int (m 9), .ref (b 10), .int (m 11), .int (zm_bs tb), .int (nI (p1_69 + 1)), .int (nI ln), .int (-1), .int (nI 0), .ref (b 17), .ref (b 18), .ref (b 19), .ref (b 20), .ref (b 21), .ref (b 22), .ref (b 23), .ref (b 24), .int (m 25), .int (m 26), .int (m 27), .int (m 28), .ref (b 29), .ref (b 30), .int (m 31), .int (m 32), .int (m 33), .int (m 34), .int (m 35), .ref (b 36), .ref (b 37), .int (m 38), .ref (b 39), .ref (b 40), .int (m 41), .int (m 42), .int (m 43), .ref (b 44), .ref (b 45), .ref (b 46), .ref (b 47)])), (b 8, .inl (g 0, 120, .inl (fun i => nI (TP i)))), (b 10, .inl (g 0, 120, .inl (fun i => nI (TX i)))), (b 17, .inl (g 0, 6, .inl NM))] sS H locs := (by rw [if_pos hsm] at G; exact G)
              obtain ⟨f9, rfl⟩ : ∃ f9, f = f9 + 1 := ⟨f - 1, by omega⟩
              have hs2 : (match zm_lns (zm_tx tb TP TX) ln NM f9 (p1_69 + 1) gv z with | .inl e => Sum.inl e | .inr q => if q.1 < ln then Sum.inl q.1 else Sum.inr q.2) = zm_wo (zm_tx tb TP TX) ln NM := by rw [← hs]; simp only [zm_lns]; rw [hLe]; simp only; rw [if_pos c59_]; rw [c87]; rfl
              refine lv_istore (lv' := [(5, .int (zk_b true)), (6, .int r_69), (7, .int (nI 1)), (0, .ref (b 100)), (3, .int (zk_b gv)), (4, .int z)]) Z.1 Z.2.1 dX8_workOut_102 hl (by decide) rfl (fun ls hl => ?_)
              refine lv_goto (tgt := 33) Z.1 Z.2.1 dX8_workOut_104 (by decide) ?_
              exact ih33 (p1_69 + 1) gv z f9 (by omega) (by omega) (by omega) (by exact hs2) _ _ _ G (lv_sub hl [3, 4, 5, 0] rfl)
          have c87 : gv = false := zk_b0.mp c87
          refine lv_iconst (v := nI 1) Z.1 Z.2.1 dX8_workOut_90 (by decide +kernel) ?_
          refine lv_istore_n (lv' := [(3, .int (nI 1)), (6, .int r_69), (7, .int (nI 1)), (0, .ref (b 100)), (4, .int z), (5, .int (zk_b true))]) Z.1 Z.2.1 dX8_workOut_91 rfl hl (by decide) rfl (fun ls hl => ?_)
          refine lv_iload Z.1 Z.2.1 dX8_workOut_92 (lv_at hl 1 rfl) ?_
          refine lv_istore (lv' := [(4, .int r_69), (3, .int (nI 1)), (6, .int r_69), (7, .int (nI 1)), (0, .ref (b 100)), (5, .int (zk_b true))]) Z.1 Z.2.1 dX8_workOut_94 hl (by decide) rfl (fun ls hl => ?_)
          have hLe : zm_line (zm_tx tb TP TX) ln NM p2 = .inr (p1_69, true, r_69) := by unfold zm_line; rw [hz_39]; simp only; rw [if_pos c63_, hz_69]; exact congrArg (fun z => (Sum.inr (p1_69, z, r_69) : Nat ⊕ (Nat × Bool × Int32))) (decide_eq_true (show ¬ zm_top (r_39 :: []) = 0 from c58))
          have hl : lv_has ls 8 [(4, .int r_69), (3, .int (zk_b true)), (6, .int r_69), (7, .int (nI 1)), (0, .ref (b 100)), (5, .int (zk_b true))] := hl
          refine lv_aload_n Z.1 Z.2.1 dX8_workOut_96 rfl (lv_at hl 4 rfl) ?_
          refine lv_bipush (v := nI 59) Z.1 Z.2.1 dX8_workOut_97 (by decide +kernel) ?_
          refine zk_ci (WF := fun (_ : Unit) => [(b 100, .inr (8, [.ref (b 0), .ref (b 1), .ref (b 2), .ref (b 3), .int (m 4), .int (m 5), .int (m 6), .int (m 7), .ref (b 8), .int (m 9), .ref (b 10), .int (m 11), .int (zm_bs tb), .int (nI (if (decide (((-1) : Int32) < 0) && decide (zg_c (zm_tx tb TP TX) ln p1_69 = 59)) = true then p1_69 + 1 else p1_69)), .int (nI ln), .int (-1), .int (nI 0), .ref (b 17), .ref (b 18), .ref (b 19), .ref (b 20), .ref (b 21), .ref (b 22), .ref (b 23), .ref (b 24), .int (m 25), .int (m 26), .int (m 27), .int (m 28), .ref (b 29), .ref (b 30), .int (m 31), .int (m 32), .int (m 33), .int (m 34), .int (m 35), .ref (b 36), .ref (b 37), .int (m 38), .ref (b 39), .ref (b 40), .int (m 41), .int (m 42), .int (m 43), .ref (b 44), .ref (b 45), .ref (b 46), .ref (b 47)])), (b 8, .inl (g 0, 120, .inl (fun i => nI (TP i)))), (b 10, .inl (g 0, 120, .inl (fun i => nI (TX i)))), (b 17, .inl (g 0, 6, .inl NM))]) (wr := [(b 17, .inl (g 0, 6, .inl NM))]) ⟨rfl, rfl⟩ (zk_rv (As := [.int (nI 59)]) (rest := []) (q0 := 0) (ci := 8) Z ((ct_X8_takes l D g τ b m ln p1_69 (-1) tb TP TX (nI 0) 59 (by exact hln) (by omega) (by exact ht) (by decide)) H.size) hK hT hA G [0, 1, 2] rfl (by decide) rfl rfl gmX8_workOut_X8_takes rfl dvX8_takes ⟨by decide, by decide⟩ rfl hl.1 rfl (Nat.le_of_ble_eq_true rfl) dX8_workOut_99 ⟨Nat.zero_le _, Nat.zero_le _⟩) hA G [0, 1, 2] [3] [1, 2, 3, 0] rfl rfl (by decide) (by decide) (by decide) (fun _ => rfl) (fun r_99 _ H locs w_99 G => ?_)
          obtain rfl : r_99 = zk_b (decide (((-1) : Int32) < 0) && decide (zg_c (zm_tx tb TP TX) ln p1_69 = 59)) := w_99
          cases hsm : (decide (((-1) : Int32) < 0) && decide (zg_c (zm_tx tb TP TX) ln p1_69 = 59))
          · have c59_ : ¬ zg_c (zm_tx tb TP TX) ln p1_69 = 59 := fun q9 => by have h9 := hsm; rw [decide_eq_true q9] at h9; exact absurd h9 (by decide)
            have G : zk_G D aA [(b 100, .inr (8, [.ref (b 0), .ref (b 1), .ref (b 2), .ref (b 3), .int (m 4), .int (m 5), .int (m 6), .int (m 7), .ref (b 8), .int (m 9), .ref (b 10), .int (m 11), .int (zm_bs tb), .int (nI p1_69), .int (nI ln), .int (-1), .int (nI 0), .ref (b 17), .ref (b 18), .ref (b 19), .ref (b 20), .ref (b 21), .ref (b 22), .ref (b 23), .ref (b 24), .int (m 25), .int (m 26), .int (m 27), .int (m 28), .ref (b 29), .ref (b 30), .int (m 31), .int (m 32), .int (m 33), .int (m 34), .int (m 35), .ref (b 36), .ref (b 37), .int (m 38), .ref (b 39), .ref (b 40), .int (m 41), .int (m 42), .int (m 43), .ref (b 44), .ref (b 45), .ref (b 46), .ref (b 47)])), (b 8, .inl (g 0, 120, .inl (fun i => nI (TP i)))), (b 10, .inl (g 0, 120, .inl (fun i => nI (TX i)))), (b 17, .inl (g 0, 6, .inl NM))] sS H locs := (by rw [if_neg (by rw [hsm]; decide)] at G; exact G)
            obtain ⟨f9, rfl⟩ : ∃ f9, f = f9 + 1 := ⟨f - 1, by omega⟩
            have hWO : (if p1_69 < ln then Sum.inl p1_69 else Sum.inr r_69) = zm_wo (zm_tx tb TP TX) ln NM := by rw [← hs]; simp only [zm_lns]; rw [hLe]; simp only; rw [if_neg c59_]; rw [c87]; rfl
            refine lv_istore (lv' := [(5, .int (zk_b false)), (4, .int r_69), (3, .int (zk_b true)), (6, .int r_69), (7, .int (nI 1)), (0, .ref (b 100))]) Z.1 Z.2.1 dX8_workOut_102 hl (by decide) rfl (fun ls hl => ?_)
            refine lv_goto (tgt := 33) Z.1 Z.2.1 dX8_workOut_104 (by decide) ?_
            refine lv_iload Z.1 Z.2.1 dX8_workOut_33 (lv_at hl 0 rfl) ?_
            refine lv_if_eq (tgt := 107) Z.1 Z.2.1 dX8_workOut_35 (by decide) (fun c35 => ?_) (fun c35 => ?_)
            · have c35 : false = false := zk_b0.mp c35
              refine lv_aload_n Z.1 Z.2.1 dX8_workOut_107 rfl (lv_at hl 5 rfl) ?_
              refine zk_get (C := RX8) (T := TX8) (N := 48) (ci := 8) Z hK G hinX8 0 rfl rfl 15 (by decide) (List.mem_cons_of_mem _ wa8_105) rfl (v := .int (-1)) rfl dX8_workOut_108 ?_
              refine lv_if_ge (tgt := 130) Z.1 Z.2.1 dX8_workOut_111 (by decide) (fun c111 => ?_) (fun c111 => ?_)
              · exfalso
                have c111 : 0 ≤ ((-1) : Int32) := c111
                exact absurd c111 (by decide)
              have c111 : ¬ 0 ≤ ((-1) : Int32) := c111
              refine lv_aload_n Z.1 Z.2.1 dX8_workOut_114 rfl (lv_at hl 5 rfl) ?_
              refine zk_get (C := RX8) (T := TX8) (N := 48) (ci := 8) Z hK G hinX8 0 rfl rfl 13 (by decide) (List.mem_cons_of_mem _ wa8_101) rfl (v := .int (nI p1_69)) rfl dX8_workOut_115 ?_
              refine lv_aload_n Z.1 Z.2.1 dX8_workOut_118 rfl (lv_at hl 5 rfl) ?_
              refine zk_get (C := RX8) (T := TX8) (N := 48) (ci := 8) Z hK G hinX8 0 rfl rfl 14 (by decide) (List.mem_cons_of_mem _ wa8_102) rfl (v := .int (nI ln)) rfl dX8_workOut_119 ?_
              refine lv_icmp_ge (tgt := 130) Z.1 Z.2.1 dX8_workOut_122 (by decide) (fun c122 => ?_) (fun c122 => ?_)
              · have c122 : ln ≤ p1_69 := zk_le (by omega) (by omega) c122
                refine lv_iload Z.1 Z.2.1 dX8_workOut_130 (lv_at hl 1 rfl) ?_
                exact zk_reti Z hR_ hlk hK hQ G (zm_bs tb, nI p1_69, nI ln, (-1), nI 0) (by rw [← hWO, if_neg (Nat.not_lt.mpr c122)]; exact ⟨rfl, rfl⟩) rfl dX8_workOut_132
              have c122 : p1_69 < ln := zk_nle (by omega) (by omega) c122
              refine lv_aload_n Z.1 Z.2.1 dX8_workOut_125 rfl (lv_at hl 5 rfl) ?_
              refine zk_ci (WF := fun (_ : Unit) => [(b 100, .inr (8, [.ref (b 0), .ref (b 1), .ref (b 2), .ref (b 3), .int (m 4), .int (m 5), .int (m 6), .int (m 7), .ref (b 8), .int (m 9), .ref (b 10), .int (m 11), .int (zm_bs tb), .int (nI p1_69), .int (nI ln), .int (if (-1) < 0 then nI p1_69 else (-1)), .int (nI 0), .ref (b 17), .ref (b 18), .ref (b 19), .ref (b 20), .ref (b 21), .ref (b 22), .ref (b 23), .ref (b 24), .int (m 25), .int (m 26), .int (m 27), .int (m 28), .ref (b 29), .ref (b 30), .int (m 31), .int (m 32), .int (m 33), .int (m 34), .int (m 35), .ref (b 36), .ref (b 37), .int (m 38), .ref (b 39), .ref (b 40), .int (m 41), .int (m 42), .int (m 43), .ref (b 44), .ref (b 45), .ref (b 46), .ref (b 47)])), (b 8, .inl (g 0, 120, .inl (fun i => nI (TP i)))), (b 10, .inl (g 0, 120, .inl (fun i => nI (TX i)))), (b 17, .inl (g 0, 6, .inl NM))]) (wr := [(b 8, .inl (g 0, 120, .inl (fun i => nI (TP i)))), (b 10, .inl (g 0, 120, .inl (fun i => nI (TX i)))), (b 17, .inl (g 0, 6, .inl NM))]) ⟨rfl, rfl⟩ (zk_rv (As := []) (rest := []) (q0 := 0) (ci := 8) Z ((ct_X8_wrong l D g τ b m ln p1_69 (-1) tb (nI 0) ) H.size) hK hT hA G [0] rfl (by decide) rfl rfl gmX8_workOut_X8_wrong rfl dvX8_wrong ⟨by decide, by decide⟩ rfl hl.1 rfl (Nat.le_of_ble_eq_true rfl) dX8_workOut_126 ⟨Nat.zero_le _, Nat.zero_le _⟩) hA G [0] [1, 2, 3] [3, 0, 1, 2] rfl rfl (by decide) (by decide) (by decide) (fun _ => rfl) (fun r_126 _ H locs w_126 G => ?_)
              obtain rfl : r_126 = nI 0 := w_126
              have G : zk_G D aA [(b 100, .inr (8, [.ref (b 0), .ref (b 1), .ref (b 2), .ref (b 3), .int (m 4), .int (m 5), .int (m 6), .int (m 7), .ref (b 8), .int (m 9), .ref (b 10), .int (m 11), .int (zm_bs tb), .int (nI p1_69), .int (nI ln), .int (nI p1_69), .int (nI 0), .ref (b 17), .ref (b 18), .ref (b 19), .ref (b 20), .ref (b 21), .ref (b 22), .ref (b 23), .ref (b 24), .int (m 25), .int (m 26), .int (m 27), .int (m 28), .ref (b 29), .ref (b 30), .int (m 31), .int (m 32), .int (m 33), .int (m 34), .int (m 35), .ref (b 36), .ref (b 37), .int (m 38), .ref (b 39), .ref (b 40), .int (m 41), .int (m 42), .int (m 43), .ref (b 44), .ref (b 45), .ref (b 46), .ref (b 47)])), (b 8, .inl (g 0, 120, .inl (fun i => nI (TP i)))), (b 10, .inl (g 0, 120, .inl (fun i => nI (TX i)))), (b 17, .inl (g 0, 6, .inl NM))] sS H locs := (by rw [if_pos (by decide)] at G; exact G)
              exact zk_reti Z hR_ hlk hK hQ G (zm_bs tb, nI p1_69, nI ln, nI p1_69, nI 0) (by rw [← hWO, if_pos c122]; exact ⟨rfl, by omega⟩) rfl dX8_workOut_129
            exfalso
            have c35 : false = true := zk_b1.mp c35
            exact absurd c35 (by decide)
          · have c59_ : zg_c (zm_tx tb TP TX) ln p1_69 = 59 := of_decide_eq_true (Bool.and_eq_true _ _ ▸ hsm).2
            have hpl9 : p1_69 < ln := zg_c_lt (tp := (zm_tx tb TP TX)) (by omega)
            have G : zk_G D aA [(b 100, .inr (8, [.ref (b 0), .ref (b 1), .ref (b 2), .ref (b 3), .int (m 4), .int (m 5), .int (m 6), .int (m 7), .ref (b 8), .int (m 9), .ref (b 10), .int (m 11), .int (zm_bs tb), .int (nI (p1_69 + 1)), .int (nI ln), .int (-1), .int (nI 0), .ref (b 17), .ref (b 18), .ref (b 19), .ref (b 20), .ref (b 21), .ref (b 22), .ref (b 23), .ref (b 24), .int (m 25), .int (m 26), .int (m 27), .int (m 28), .ref (b 29), .ref (b 30), .int (m 31), .int (m 32), .int (m 33), .int (m 34), .int (m 35), .ref (b 36), .ref (b 37), .int (m 38), .ref (b 39), .ref (b 40), .int (m 41), .int (m 42), .int (m 43), .ref (b 44), .ref (b 45), .ref (b 46), .ref (b 47)])), (b 8, .inl (g 0, 120, .inl (fun i => nI (TP i)))), (b 10, .inl (g 0, 120, .inl (fun i => nI (TX i)))), (b 17, .inl (g 0, 6, .inl NM))] sS H locs := (by rw [if_pos hsm] at G; exact G)
            obtain ⟨f9, rfl⟩ : ∃ f9, f = f9 + 1 := ⟨f - 1, by omega⟩
            have hs2 : (match zm_lns (zm_tx tb TP TX) ln NM f9 (p1_69 + 1) true r_69 with | .inl e => Sum.inl e | .inr q => if q.1 < ln then Sum.inl q.1 else Sum.inr q.2) = zm_wo (zm_tx tb TP TX) ln NM := by rw [← hs]; simp only [zm_lns]; rw [hLe]; simp only; rw [if_pos c59_]; rw [c87]; rfl
            refine lv_istore (lv' := [(5, .int (zk_b true)), (4, .int r_69), (3, .int (zk_b true)), (6, .int r_69), (7, .int (nI 1)), (0, .ref (b 100))]) Z.1 Z.2.1 dX8_workOut_102 hl (by decide) rfl (fun ls hl => ?_)
            refine lv_goto (tgt := 33) Z.1 Z.2.1 dX8_workOut_104 (by decide) ?_
            exact ih33 (p1_69 + 1) true r_69 f9 (by omega) (by omega) (by omega) (by exact hs2) _ _ _ G (lv_sub hl [5, 2, 1, 0] rfl)
  exact L33 _ 0 false (nI 0) 122 (Nat.lt_succ_self _) (by omega) (by omega) (by rfl) _ _ _ G (lv_sub hl [3, 2, 1, 0] rfl)
