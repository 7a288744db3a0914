/-! The reference: the way. -/
def zm_nc (s : Nat → Nat → Nat → Bool) (A : Nat → Nat) (v who t o : Nat) : Bool := (decide (o = who) || s who o t) && decide (A o + (if o = who then 0 else 1) = v)
theorem zm_nc_n {s : Nat → Nat → Nat → Bool} {A : Nat → Nat} {v who t o : Nat} (h : o ≠ who) (hs : s who o t = false) : zm_nc s A v who t o = false := by unfold zm_nc; rw [decide_eq_false h, hs]; rfl
theorem zm_nc_1 {s : Nat → Nat → Nat → Bool} {A : Nat → Nat} {v who t o : Nat} (h : o = who) (hv : A o + 0 ≠ v) : zm_nc s A v who t o = false := by unfold zm_nc; rw [if_pos h, decide_eq_false hv]; exact Bool.and_false _
theorem zm_nc_2 {s : Nat → Nat → Nat → Bool} {A : Nat → Nat} {v who t o : Nat} (h : o ≠ who) (hv : A o + 1 ≠ v) : zm_nc s A v who t o = false := by unfold zm_nc; rw [if_neg h, decide_eq_false hv]; exact Bool.and_false _
theorem zm_nc_3 {s : Nat → Nat → Nat → Bool} {A : Nat → Nat} {v who t o : Nat} (h : o = who) (hv : A o + 0 = v) : zm_nc s A v who t o = true := by unfold zm_nc; rw [if_pos h, decide_eq_true hv, decide_eq_true h]; rfl
theorem zm_nc_4 {s : Nat → Nat → Nat → Bool} {A : Nat → Nat} {v who t o : Nat} (h : o ≠ who) (hs : s who o t = true) (hv : A o + 1 = v) : zm_nc s A v who t o = true := by unfold zm_nc; rw [if_neg h, decide_eq_true hv, hs, decide_eq_false h]; rfl
theorem zm_f1_y {s : Nat → Bool} {d f w : Nat} (h : s w = true) : zv_f1 s d (f + 1) w = w := if_pos h
theorem zm_f1_n {s : Nat → Bool} {d f w : Nat} (h : s w = false) : zv_f1 s d (f + 1) w = zv_f1 s d f (w + 1) := if_neg (by rw [h]; decide)

abbrev rm_X8_nextOf : Room := { frames := 1, cells := 0, slots := 0, locals := 24 }
theorem dvX8_nextOf : zk_dv yX8_nextOf RX8 3 := by decide +kernel
theorem gmX8_nextOf_X8_sawAt : GoodIn wmX8_nextOf (wsV RX8 223 RX8 yX8_sawAt wmX8_sawAt) := goodIn_app (wa8_w (List.forall_mem_cons.mpr ⟨wa8_165, List.forall_mem_cons.mpr ⟨wa8_166, List.forall_mem_cons.mpr ⟨wa8_167, List.forall_mem_cons.mpr ⟨wa8_43, fun _ h => absurd h List.not_mem_nil⟩⟩⟩⟩)) (wa8_sub wa8_157)
set_option maxRecDepth 100000 in
set_option maxHeartbeats 400000 in
theorem ct_X8_nextOf (l : Launch) (D : va_G) (g : Nat → ClassId) (τ : Nat → Nat) (b : Nat → Nat) (m : Nat → Int32) (tl : Bool) (ev : (Nat → Int32) → Int32) (n : Nat) (M : Nat → Nat) (SN : Nat → Int32) (PR : Nat → Nat) (FW : Nat → Nat) (A9 : Nat → Nat) (v9 : Nat) (who : Nat) (t : Nat) (k : Nat) (hW : zs_W n M (zm_S M)) (hok : zm_ok tl ev M n 49 SN PR) (hwho : who < n) (htt : t < 2 ^ 29) (hk9 : k < 600) (hA9 : ∀ o9, o9 < n → FW (7 * (k + 1) + o9) = A9 o9) (hv9 : FW (7 * k + who) = v9) (hA1 : ∀ o9, A9 o9 ≤ 1000000) (hv1 : v9 ≤ 1000000) (hex : ∃ o9, o9 < n ∧ (zm_nc (zs_meet tl ev M (zm_S M) (zm_R M) (M 21)) A9 v9 who (t + k)) o9 = true) : zk_MI l D g τ yX8_nextOf wmX8_nextOf rm_X8_nextOf [.ref (b 100), .int (nI who), .int (nI t), .int (nI k)] [(b 100, .inr (8, [.ref (b 0), .ref (b 1), .ref (b 2), .ref (b 3), .int (m 4), .int (m 5), .int (nI n), .int (m 7), .ref (b 8), .int (m 9), .ref (b 10), .int (m 11), .int (m 12), .int (m 13), .int (m 14), .int (m 15), .int (m 16), .ref (b 17), .ref (b 18), .ref (b 19), .ref (b 20), .ref (b 21), .ref (b 22), .ref (b 23), .ref (b 24), .int (m 25), .int (m 26), .int (m 27), .int (m 28), .ref (b 29), .ref (b 30), .int (m 31), .int (m 32), .int (m 33), .int (m 34), .int (m 35), .ref (b 36), .ref (b 37), .int (m 38), .ref (b 39), .ref (b 40), .int (m 41), .int (m 42), .int (m 43), .ref (b 44), .ref (b 45), .ref (b 46), .ref (b 47)])), (b 18, .inl (g 3, 6468, .inl SN)), (b 19, .inl (g 0, 49, .inl (fun i => nI (PR i)))), (b 22, .inl (g 0, 4207, .inl (fun i => nI (FW i))))] (fun (r : Int32) (_ : Unit) => r = nI (zv_f1 (zm_nc (zs_meet tl ev M (zm_S M) (zm_R M) (M 21)) A9 v9 who (t + k)) 0 n 0)) (fun (_ : Unit) => [(b 100, .inr (8, [.ref (b 0), .ref (b 1), .ref (b 2), .ref (b 3), .int (m 4), .int (m 5), .int (nI n), .int (m 7), .ref (b 8), .int (m 9), .ref (b 10), .int (m 11), .int (m 12), .int (m 13), .int (m 14), .int (m 15), .int (m 16), .ref (b 17), .ref (b 18), .ref (b 19), .ref (b 20), .ref (b 21), .ref (b 22), .ref (b 23), .ref (b 24), .int (m 25), .int (m 26), .int (m 27), .int (m 28), .ref (b 29), .ref (b 30), .int (m 31), .int (m 32), .int (m 33), .int (m 34), .int (m 35), .ref (b 36), .ref (b 37), .int (m 38), .ref (b 39), .ref (b 40), .int (m 41), .int (m 42), .int (m 43), .ref (b 44), .ref (b 45), .ref (b 46), .ref (b 47)])), (b 18, .inl (g 3, 6468, .inl SN)), (b 19, .inl (g 0, 49, .inl (fun i => nI (PR i)))), (b 22, .inl (g 0, 4207, .inl (fun i => nI (FW i))))]) := by
  refine zk_of (av := [.ref (b 100), .int (nI who), .int (nI t), .int (nI k)]) (W0 := [(b 100, .inr (8, [.ref (b 0), .ref (b 1), .ref (b 2), .ref (b 3), .int (m 4), .int (m 5), .int (nI n), .int (m 7), .ref (b 8), .int (m 9), .ref (b 10), .int (m 11), .int (m 12), .int (m 13), .int (m 14), .int (m 15), .int (m 16), .ref (b 17), .ref (b 18), .ref (b 19), .ref (b 20), .ref (b 21), .ref (b 22), .ref (b 23), .ref (b 24), .int (m 25), .int (m 26), .int (m 27), .int (m 28), .ref (b 29), .ref (b 30), .int (m 31), .int (m 32), .int (m 33), .int (m 34), .int (m 35), .ref (b 36), .ref (b 37), .int (m 38), .ref (b 39), .ref (b 40), .int (m 41), .int (m 42), .int (m 43), .ref (b 44), .ref (b 45), .ref (b 46), .ref (b 47)])), (b 18, .inl (g 3, 6468, .inl SN)), (b 19, .inl (g 0, 49, .inl (fun i => nI (PR i)))), (b 22, .inl (g 0, 4207, .inl (fun i => nI (FW i))))]) (y := yX8_nextOf) (wd := wmX8_nextOf) (Qc := fun A => va_Qi (fun (r : Int32) (_ : Unit) => r = nI (zv_f1 (zm_nc (zs_meet tl ev M (zm_S M) (zm_R M) (M 21)) A9 v9 who (t + k)) 0 n 0)) (zk_B D g A (fun (_ : Unit) => [(b 100, .inr (8, [.ref (b 0), .ref (b 1), .ref (b 2), .ref (b 3), .int (m 4), .int (m 5), .int (nI n), .int (m 7), .ref (b 8), .int (m 9), .ref (b 10), .int (m 11), .int (m 12), .int (m 13), .int (m 14), .int (m 15), .int (m 16), .ref (b 17), .ref (b 18), .ref (b 19), .ref (b 20), .ref (b 21), .ref (b 22), .ref (b 23), .ref (b 24), .int (m 25), .int (m 26), .int (m 27), .int (m 28), .ref (b 29), .ref (b 30), .int (m 31), .int (m 32), .int (m 33), .int (m 34), .int (m 35), .ref (b 36), .ref (b 37), .int (m 38), .ref (b 39), .ref (b 40), .int (m 41), .int (m 42), .int (m 43), .ref (b 44), .ref (b 45), .ref (b 46), .ref (b 47)])), (b 18, .inl (g 3, 6468, .inl SN)), (b 19, .inl (g 0, 49, .inl (fun i => nI (PR i)))), (b 22, .inl (g 0, 4207, .inl (fun i => nI (FW i))))])) A) (cc := cX8_nextOf) (maxL := 7) (ret := (some .int)) (own := RX8) (by decide) rfl rfl (Nat.le_of_ble_eq_true rfl) ?_
  intro pP eE sS mM args below meth cC aA ls qQ Z hR_ hlk hnm hK hT hA hQ G hl
  have hinX8 : ∀ w ∈ u_ws RX8 TX8 48, w ∈ wmX8_nextOf := wa8_in
  have hn := hW.1
  obtain ⟨V, hV⟩ : ∃ V, V = zv_f1 (zm_nc (zs_meet tl ev M (zm_S M) (zm_R M) (M 21)) A9 v9 who (t + k)) 0 n 0 := ⟨_, rfl⟩
  refine lv_iconst (v := nI 0) Z.1 Z.2.1 dX8_nextOf_0 (by decide +kernel) ?_
  refine lv_istore (lv' := [(4, .int (nI 0)), (0, .ref (b 100)), (1, .int (nI who)), (2, .int (nI t)), (3, .int (nI k))]) Z.1 Z.2.1 dX8_nextOf_1 hl (by decide) rfl (fun ls hl => ?_)
  have L3 : ∀ (nN : Nat) (o : Nat), n - o < nN → (o ≤ n) → (zv_f1 (zm_nc (zs_meet tl ev M (zm_S M) (zm_R M) (M 21)) A9 v9 who (t + k)) 0 (n - o) o = V) → (∀ o9, o9 < o → (zm_nc (zs_meet tl ev M (zm_S M) (zm_R M) (M 21)) A9 v9 who (t + k)) o9 = false) → ∀ (H : Heap) (locs : List Loc) (ls : Array Slot), zk_G D aA [(b 100, .inr (8, [.ref (b 0), .ref (b 1), .ref (b 2), .ref (b 3), .int (m 4), .int (m 5), .int (nI n), .int (m 7), .ref (b 8), .int (m 9), .ref (b 10), .int (m 11), .int (m 12), .int (m 13), .int (m 14), .int (m 15), .int (m 16), .ref (b 17), .ref (b 18), .ref (b 19), .ref (b 20), .ref (b 21), .ref (b 22), .ref (b 23), .ref (b 24), .int (m 25), .int (m 26), .int (m 27), .int (m 28), .ref (b 29), .ref (b 30), .int (m 31), .int (m 32), .int (m 33), .int (m 34), .int (m 35), .ref (b 36), .ref (b 37), .int (m 38), .ref (b 39), .ref (b 40), .int (m 41), .int (m 42), .int (m 43), .ref (b 44), .ref (b 45), .ref (b 46), .ref (b 47)])), (b 18, .inl (g 3, 6468, .inl SN)), (b 19, .inl (g 0, 49, .inl (fun i => nI (PR i)))), (b 22, .inl (g 0, 4207, .inl (fun i => nI (FW i))))] sS H locs → lv_has ls 7 [(0, .ref (b 100)), (1, .int (nI who)), (2, .int (nI t)), (3, .int (nI k)), (4, .int (nI o))] → W pP l eE rm_X8_nextOf sS mM args below meth cC H locs 0 0 qQ (F0 mM 3 ls []) := by
    intro nN
    induction nN with
    | zero => intros; omega
    | succ nN ih3 =>
      intro o hμ h1 hs hno H locs ls G hl
      refine lv_iload Z.1 Z.2.1 dX8_nextOf_3 (lv_at hl 4 rfl) ?_
      refine lv_aload_n Z.1 Z.2.1 dX8_nextOf_5 rfl (lv_at hl 0 rfl) ?_
      refine zk_get (C := RX8) (T := TX8) (N := 48) (ci := 8) Z hK G hinX8 0 rfl rfl 6 (by decide) (List.mem_cons_of_mem _ wa8_40) rfl (v := .int (nI n)) rfl dX8_nextOf_6 ?_
      refine lv_icmp_ge (tgt := 96) Z.1 Z.2.1 dX8_nextOf_9 (by decide) (fun c9 => ?_) (fun c9 => ?_)
      · exfalso
        have c9 : n ≤ o := zk_le (by omega) (by omega) c9
        obtain ⟨o9, h9, h8⟩ := hex; exact absurd ((hno o9 (by omega)).symm.trans h8) (by decide)
      have c9 : o < n := zk_nle (by omega) (by omega) c9
      obtain ⟨f, hf⟩ : ∃ f, n - o = f + 1 := ⟨n - o - 1, by omega⟩
      have ho9 := hA1 o
      refine lv_iload Z.1 Z.2.1 dX8_nextOf_12 (lv_at hl 4 rfl) ?_
      refine lv_iload_n Z.1 Z.2.1 dX8_nextOf_14 rfl (lv_at hl 1 rfl) ?_
      refine lv_icmp_eq (tgt := 31) Z.1 Z.2.1 dX8_nextOf_15 (by decide) (fun c15 => ?_) (fun c15 => ?_)
      · have c15 : o = who := zk_eq (by omega) (by omega) c15
        refine lv_iconst (v := nI 1) Z.1 Z.2.1 dX8_nextOf_31 (by decide +kernel) ?_
        refine lv_goto (tgt := 36) Z.1 Z.2.1 dX8_nextOf_32 (by decide) ?_
        refine lv_istore (lv' := [(5, .int (nI 1)), (0, .ref (b 100)), (1, .int (nI who)), (2, .int (nI t)), (3, .int (nI k)), (4, .int (nI o))]) Z.1 Z.2.1 dX8_nextOf_36 hl (by decide) rfl (fun ls hl => ?_)
        refine lv_iload Z.1 Z.2.1 dX8_nextOf_38 (lv_at hl 5 rfl) ?_
        refine lv_iload_n Z.1 Z.2.1 dX8_nextOf_40 rfl (lv_at hl 2 rfl) ?_
        refine lv_icmp_ne (tgt := 48) Z.1 Z.2.1 dX8_nextOf_41 (by decide) (fun c41 => ?_) (fun c41 => ?_)
        · exfalso
          have c41 : o ≠ who := zk_neq (by omega) (by omega) c41
          omega
        have c41 : o = who := zk_eq (by omega) (by omega) c41
        refine lv_iconst (v := nI 0) Z.1 Z.2.1 dX8_nextOf_44 (by decide +kernel) ?_
        refine lv_goto (tgt := 49) Z.1 Z.2.1 dX8_nextOf_45 (by decide) ?_
        refine lv_istore (lv' := [(6, .int (nI 0)), (5, .int (nI 1)), (0, .ref (b 100)), (1, .int (nI who)), (2, .int (nI t)), (3, .int (nI k)), (4, .int (nI o))]) Z.1 Z.2.1 dX8_nextOf_49 hl (by decide) rfl (fun ls hl => ?_)
        refine lv_iload Z.1 Z.2.1 dX8_nextOf_51 (lv_at hl 1 rfl) ?_
        refine lv_if_eq (tgt := 90) Z.1 Z.2.1 dX8_nextOf_53 (by decide) (fun c53 => ?_) (fun c53 => ?_)
        · exfalso
          have c53 : 1 = 0 := zk_eq (by omega) (by omega) c53
          omega
        have c53 : 1 ≠ 0 := zk_neq (by omega) (by omega) c53
        refine lv_aload_n Z.1 Z.2.1 dX8_nextOf_56 rfl (lv_at hl 2 rfl) ?_
        refine zk_get (C := RX8) (T := TX8) (N := 48) (ci := 8) Z hK G hinX8 0 rfl rfl 22 (by decide) (List.mem_cons_of_mem _ wa8_19) rfl (v := .ref (b 22)) rfl dX8_nextOf_57 ?_
        refine lv_bipush (v := nI 7) Z.1 Z.2.1 dX8_nextOf_60 (by decide +kernel) ?_
        refine lv_iload_n Z.1 Z.2.1 dX8_nextOf_62 rfl (lv_at hl 5 rfl) ?_
        refine lv_iconst (v := nI 1) Z.1 Z.2.1 dX8_nextOf_63 (by decide +kernel) ?_
        refine zk_iadd Z dX8_nextOf_64 (z := nI (k + 1)) (nI_add _ _) ?_
        refine zk_imul Z dX8_nextOf_65 (z := nI (7 * (k + 1))) (pk_mul _ _) ?_
        refine lv_iload Z.1 Z.2.1 dX8_nextOf_66 (lv_at hl 6 rfl) ?_
        refine zk_iadd Z dX8_nextOf_68 (z := nI (7 * (k + 1) + o)) (nI_add _ _) ?_
        refine zk_iald Z hK G 3 rfl (k := 7 * (k + 1) + o) (by omega) (by decide) (v := nI (A9 o)) (congrArg nI (hA9 o (by omega))) dX8_nextOf_69 ?_
        refine lv_iload Z.1 Z.2.1 dX8_nextOf_70 (lv_at hl 0 rfl) ?_
        refine zk_iadd Z dX8_nextOf_72 (z := nI (A9 o + 0)) (nI_add _ _) ?_
        refine lv_aload_n Z.1 Z.2.1 dX8_nextOf_73 rfl (lv_at hl 2 rfl) ?_
        refine zk_get (C := RX8) (T := TX8) (N := 48) (ci := 8) Z hK G hinX8 0 rfl rfl 22 (by decide) (List.mem_cons_of_mem _ wa8_19) rfl (v := .ref (b 22)) rfl dX8_nextOf_74 ?_
        refine lv_bipush (v := nI 7) Z.1 Z.2.1 dX8_nextOf_77 (by decide +kernel) ?_
        refine lv_iload_n Z.1 Z.2.1 dX8_nextOf_79 rfl (lv_at hl 5 rfl) ?_
        refine zk_imul Z dX8_nextOf_80 (z := nI (7 * k)) (pk_mul _ _) ?_
        refine lv_iload_n Z.1 Z.2.1 dX8_nextOf_81 rfl (lv_at hl 3 rfl) ?_
        refine zk_iadd Z dX8_nextOf_82 (z := nI (7 * k + who)) (nI_add _ _) ?_
        refine zk_iald Z hK G 3 rfl (k := 7 * k + who) (by omega) (by decide) (v := nI v9) (congrArg nI hv9) dX8_nextOf_83 ?_
        refine lv_icmp_ne (tgt := 90) Z.1 Z.2.1 dX8_nextOf_84 (by decide) (fun c84 => ?_) (fun c84 => ?_)
        · have c84 : A9 o + 0 ≠ v9 := zk_neq (by omega) (by omega) c84
          refine lv_iinc (v := nI (o + 1)) (lv' := [(4, .int (nI (o + 1))), (6, .int (nI 0)), (5, .int (nI 1)), (0, .ref (b 100)), (1, .int (nI who)), (2, .int (nI t)), (3, .int (nI k))]) Z.1 Z.2.1 dX8_nextOf_90 hl (k := 6) rfl (zk_inc o 1) (by decide) rfl (fun ls hl => ?_)
          refine lv_goto (tgt := 3) Z.1 Z.2.1 dX8_nextOf_93 (by decide) ?_
          exact ih3 (o + 1) (by omega) (by omega) (by rw [hf, zm_f1_n (zm_nc_1 c15 c84)] at hs; rw [show n - (o + 1) = f by omega]; exact hs) (by intro o9 h9; by_cases e9 : o9 = o; rw [e9]; exact (zm_nc_1 c15 c84); exact hno o9 (by omega)) _ _ _ G (lv_sub hl [3, 4, 5, 6, 0] rfl)
        have c84 : A9 o + 0 = v9 := zk_eq (by omega) (by omega) c84
        refine lv_iload Z.1 Z.2.1 dX8_nextOf_87 (lv_at hl 6 rfl) ?_
        exact zk_reti Z hR_ hlk hK hQ G () (congrArg nI (by rw [← hV, ← hs, hf]; exact (zm_f1_y (zm_nc_3 c15 c84)).symm)) rfl dX8_nextOf_89
      have c15 : o ≠ who := zk_neq (by omega) (by omega) c15
      refine lv_aload_n Z.1 Z.2.1 dX8_nextOf_18 rfl (lv_at hl 0 rfl) ?_
      refine lv_iload_n Z.1 Z.2.1 dX8_nextOf_19 rfl (lv_at hl 1 rfl) ?_
      refine lv_iload Z.1 Z.2.1 dX8_nextOf_20 (lv_at hl 4 rfl) ?_
      refine lv_iload_n Z.1 Z.2.1 dX8_nextOf_22 rfl (lv_at hl 2 rfl) ?_
      refine lv_iload_n Z.1 Z.2.1 dX8_nextOf_23 rfl (lv_at hl 3 rfl) ?_
      refine zk_iadd Z dX8_nextOf_24 (z := nI (t + k)) (nI_add _ _) ?_
      refine zk_ci (WF := fun (_ : Unit) => [(b 100, .inr (8, [.ref (b 0), .ref (b 1), .ref (b 2), .ref (b 3), .int (m 4), .int (m 5), .int (nI n), .int (m 7), .ref (b 8), .int (m 9), .ref (b 10), .int (m 11), .int (m 12), .int (m 13), .int (m 14), .int (m 15), .int (m 16), .ref (b 17), .ref (b 18), .ref (b 19), .ref (b 20), .ref (b 21), .ref (b 22), .ref (b 23), .ref (b 24), .int (m 25), .int (m 26), .int (m 27), .int (m 28), .ref (b 29), .ref (b 30), .int (m 31), .int (m 32), .int (m 33), .int (m 34), .int (m 35), .ref (b 36), .ref (b 37), .int (m 38), .ref (b 39), .ref (b 40), .int (m 41), .int (m 42), .int (m 43), .ref (b 44), .ref (b 45), .ref (b 46), .ref (b 47)])), (b 18, .inl (g 3, 6468, .inl SN)), (b 19, .inl (g 0, 49, .inl (fun i => nI (PR i)))), (b 22, .inl (g 0, 4207, .inl (fun i => nI (FW i))))]) (wr := [(b 22, .inl (g 0, 4207, .inl (fun i => nI (FW i))))]) ⟨rfl, rfl⟩ (zk_rv (As := [.int (nI who), .int (nI o), .int (nI (t + k))]) (rest := []) (q0 := 0) (ci := 8) Z ((ct_X8_sawAt l D g τ b (upd m 6 (nI n)) tl ev n M SN PR who o (t + k) (by exact hW) (by exact hok) (by exact hwho) (by omega) (by omega) (by omega)) H.size) hK hT hA G [0, 1, 2] rfl (by decide) rfl rfl gmX8_nextOf_X8_sawAt rfl dvX8_sawAt ⟨by decide, by decide⟩ rfl hl.1 rfl (Nat.le_of_ble_eq_true rfl) dX8_nextOf_25 ⟨Nat.zero_le _, Nat.zero_le _⟩) hA G [0, 1, 2] [3] [1, 2, 3, 0] rfl rfl (by decide) (by decide) (by decide) (fun _ => rfl) (fun r_25 _ H locs w_25 G => ?_)
      obtain rfl : r_25 = zk_b (zs_meet tl ev M (zm_S M) (zm_R M) (M 21) who o (t + k)) := w_25
      refine lv_if_eq (tgt := 35) Z.1 Z.2.1 dX8_nextOf_28 (by decide) (fun c28 => ?_) (fun c28 => ?_)
      · have c28 : (zs_meet tl ev M (zm_S M) (zm_R M) (M 21) who o (t + k)) = false := zk_b0.mp c28
        refine lv_iconst (v := nI 0) Z.1 Z.2.1 dX8_nextOf_35 (by decide +kernel) ?_
        refine lv_istore (lv' := [(5, .int (nI 0)), (0, .ref (b 100)), (1, .int (nI who)), (2, .int (nI t)), (3, .int (nI k)), (4, .int (nI o))]) Z.1 Z.2.1 dX8_nextOf_36 hl (by decide) rfl (fun ls hl => ?_)
        refine lv_iload Z.1 Z.2.1 dX8_nextOf_38 (lv_at hl 5 rfl) ?_
        refine lv_iload_n Z.1 Z.2.1 dX8_nextOf_40 rfl (lv_at hl 2 rfl) ?_
        refine lv_icmp_ne (tgt := 48) Z.1 Z.2.1 dX8_nextOf_41 (by decide) (fun c41 => ?_) (fun c41 => ?_)
        · have c41 : o ≠ who := zk_neq (by omega) (by omega) c41
          refine lv_iconst (v := nI 1) Z.1 Z.2.1 dX8_nextOf_48 (by decide +kernel) ?_
          refine lv_istore (lv' := [(6, .int (nI 1)), (5, .int (nI 0)), (0, .ref (b 100)), (1, .int (nI who)), (2, .int (nI t)), (3, .int (nI k)), (4, .int (nI o))]) Z.1 Z.2.1 dX8_nextOf_49 hl (by decide) rfl (fun ls hl => ?_)
          refine lv_iload Z.1 Z.2.1 dX8_nextOf_51 (lv_at hl 1 rfl) ?_
          refine lv_if_eq (tgt := 90) Z.1 Z.2.1 dX8_nextOf_53 (by decide) (fun c53 => ?_) (fun c53 => ?_)
          · have c53 : 0 = 0 := zk_eq (by omega) (by omega) c53
            refine lv_iinc (v := nI (o + 1)) (lv' := [(4, .int (nI (o + 1))), (6, .int (nI 1)), (5, .int (nI 0)), (0, .ref (b 100)), (1, .int (nI who)), (2, .int (nI t)), (3, .int (nI k))]) Z.1 Z.2.1 dX8_nextOf_90 hl (k := 6) rfl (zk_inc o 1) (by decide) rfl (fun ls hl => ?_)
            refine lv_goto (tgt := 3) Z.1 Z.2.1 dX8_nextOf_93 (by decide) ?_
            exact ih3 (o + 1) (by omega) (by omega) (by rw [hf, zm_f1_n (zm_nc_n c15 c28)] at hs; rw [show n - (o + 1) = f by omega]; exact hs) (by intro o9 h9; by_cases e9 : o9 = o; rw [e9]; exact (zm_nc_n c15 c28); exact hno o9 (by omega)) _ _ _ G (lv_sub hl [3, 4, 5, 6, 0] rfl)
          exfalso
          have c53 : 0 ≠ 0 := zk_neq (by omega) (by omega) c53
          omega
        exfalso
        have c41 : o = who := zk_eq (by omega) (by omega) c41
        omega
      have c28 : (zs_meet tl ev M (zm_S M) (zm_R M) (M 21) who o (t + k)) = true := zk_b1.mp c28
      refine lv_iconst (v := nI 1) Z.1 Z.2.1 dX8_nextOf_31 (by decide +kernel) ?_
      refine lv_goto (tgt := 36) Z.1 Z.2.1 dX8_nextOf_32 (by decide) ?_
      refine lv_istore (lv' := [(5, .int (nI 1)), (0, .ref (b 100)), (1, .int (nI who)), (2, .int (nI t)), (3, .int (nI k)), (4, .int (nI o))]) Z.1 Z.2.1 dX8_nextOf_36 hl (by decide) rfl (fun ls hl => ?_)
      refine lv_iload Z.1 Z.2.1 dX8_nextOf_38 (lv_at hl 5 rfl) ?_
      refine lv_iload_n Z.1 Z.2.1 dX8_nextOf_40 rfl (lv_at hl 2 rfl) ?_
      refine lv_icmp_ne (tgt := 48) Z.1 Z.2.1 dX8_nextOf_41 (by decide) (fun c41 => ?_) (fun c41 => ?_)
      · have c41 : o ≠ who := zk_neq (by omega) (by omega) c41
        refine lv_iconst (v := nI 1) Z.1 Z.2.1 dX8_nextOf_48 (by decide +kernel) ?_
        refine lv_istore (lv' := [(6, .int (nI 1)), (5, .int (nI 1)), (0, .ref (b 100)), (1, .int (nI who)), (2, .int (nI t)), (3, .int (nI k)), (4, .int (nI o))]) Z.1 Z.2.1 dX8_nextOf_49 hl (by decide) rfl (fun ls hl => ?_)
        refine lv_iload Z.1 Z.2.1 dX8_nextOf_51 (lv_at hl 1 rfl) ?_
        refine lv_if_eq (tgt := 90) Z.1 Z.2.1 dX8_nextOf_53 (by decide) (fun c53 => ?_) (fun c53 => ?_)
        · exfalso
          have c53 : 1 = 0 := zk_eq (by omega) (by omega) c53
          omega
        have c53 : 1 ≠ 0 := zk_neq (by omega) (by omega) c53
        refine lv_aload_n Z.1 Z.2.1 dX8_nextOf_56 rfl (lv_at hl 2 rfl) ?_
        refine zk_get (C := RX8) (T := TX8) (N := 48) (ci := 8) Z hK G hinX8 0 rfl rfl 22 (by decide) (List.mem_cons_of_mem _ wa8_19) rfl (v := .ref (b 22)) rfl dX8_nextOf_57 ?_
        refine lv_bipush (v := nI 7) Z.1 Z.2.1 dX8_nextOf_60 (by decide +kernel) ?_
        refine lv_iload_n Z.1 Z.2.1 dX8_nextOf_62 rfl (lv_at hl 5 rfl) ?_
        refine lv_iconst (v := nI 1) Z.1 Z.2.1 dX8_nextOf_63 (by decide +kernel) ?_
        refine zk_iadd Z dX8_nextOf_64 (z := nI (k + 1)) (nI_add _ _) ?_
        refine zk_imul Z dX8_nextOf_65 (z := nI (7 * (k + 1))) (pk_mul _ _) ?_
        refine lv_iload Z.1 Z.2.1 dX8_nextOf_66 (lv_at hl 6 rfl) ?_
        refine zk_iadd Z dX8_nextOf_68 (z := nI (7 * (k + 1) + o)) (nI_add _ _) ?_
        refine zk_iald Z hK G 3 rfl (k := 7 * (k + 1) + o) (by omega) (by decide) (v := nI (A9 o)) (congrArg nI (hA9 o (by omega))) dX8_nextOf_69 ?_
        refine lv_iload Z.1 Z.2.1 dX8_nextOf_70 (lv_at hl 0 rfl) ?_
        refine zk_iadd Z dX8_nextOf_72 (z := nI (A9 o + 1)) (nI_add _ _) ?_
        refine lv_aload_n Z.1 Z.2.1 dX8_nextOf_73 rfl (lv_at hl 2 rfl) ?_
        refine zk_get (C := RX8) (T := TX8) (N := 48) (ci := 8) Z hK G hinX8 0 rfl rfl 22 (by decide) (List.mem_cons_of_mem _ wa8_19) rfl (v := .ref (b 22)) rfl dX8_nextOf_74 ?_
        refine lv_bipush (v := nI 7) Z.1 Z.2.1 dX8_nextOf_77 (by decide +kernel) ?_
        refine lv_iload_n Z.1 Z.2.1 dX8_nextOf_79 rfl (lv_at hl 5 rfl) ?_
        refine zk_imul Z dX8_nextOf_80 (z := nI (7 * k)) (pk_mul _ _) ?_
        refine lv_iload_n Z.1 Z.2.1 dX8_nextOf_81 rfl (lv_at hl 3 rfl) ?_
        refine zk_iadd Z dX8_nextOf_82 (z := nI (7 * k + who)) (nI_add _ _) ?_
        refine zk_iald Z hK G 3 rfl (k := 7 * k + who) (by omega) (by decide) (v := nI v9) (congrArg nI hv9) dX8_nextOf_83 ?_
        refine lv_icmp_ne (tgt := 90) Z.1 Z.2.1 dX8_nextOf_84 (by decide) (fun c84 => ?_) (fun c84 => ?_)
        · have c84 : A9 o + 1 ≠ v9 := zk_neq (by omega) (by omega) c84
          refine lv_iinc (v := nI (o + 1)) (lv' := [(4, .int (nI (o + 1))), (6, .int (nI 1)), (5, .int (nI 1)), (0, .ref (b 100)), (1, .int (nI who)), (2, .int (nI t)), (3, .int (nI k))]) Z.1 Z.2.1 dX8_nextOf_90 hl (k := 6) rfl (zk_inc o 1) (by decide) rfl (fun ls hl => ?_)
          refine lv_goto (tgt := 3) Z.1 Z.2.1 dX8_nextOf_93 (by decide) ?_
          exact ih3 (o + 1) (by omega) (by omega) (by rw [hf, zm_f1_n (zm_nc_2 c15 c84)] at hs; rw [show n - (o + 1) = f by omega]; exact hs) (by intro o9 h9; by_cases e9 : o9 = o; rw [e9]; exact (zm_nc_2 c15 c84); exact hno o9 (by omega)) _ _ _ G (lv_sub hl [3, 4, 5, 6, 0] rfl)
        have c84 : A9 o + 1 = v9 := zk_eq (by omega) (by omega) c84
        refine lv_iload Z.1 Z.2.1 dX8_nextOf_87 (lv_at hl 6 rfl) ?_
        exact zk_reti Z hR_ hlk hK hQ G () (congrArg nI (by rw [← hV, ← hs, hf]; exact (zm_f1_y (zm_nc_4 c15 c28 c84)).symm)) rfl dX8_nextOf_89
      exfalso
      have c41 : o = who := zk_eq (by omega) (by omega) c41
      omega
  exact L3 _ 0 (Nat.lt_succ_self _) (by omega) (by exact hV.symm) (by intro o9 h9; omega) _ _ _ G (lv_sub hl [1, 2, 3, 4, 0] rfl)
