/-! The reference: the way. -/
def zm_nc (s : Nat → Nat → Nat → Bool) (A : Nat → Nat) (v who t o : Nat) : Bool := (decide (o = who) || s who o t) && decide (A o + (if o = who then 0 else 1) = v)
theorem zm_nc_n {s : Nat → Nat → Nat → Bool} {A : Nat → Nat} {v who t o : Nat} (h : o ≠ who) (hs : s who o t = false) : zm_nc s A v who t o = false := by unfold zm_nc; rw [decide_eq_false h, hs]; rfl
theorem zm_nc_1 {s : Nat → Nat → Nat → Bool} {A : Nat → Nat} {v who t o : Nat} (h : o = who) (hv : A o + 0 ≠ v) : zm_nc s A v who t o = false := by unfold zm_nc; rw [if_pos h, decide_eq_false hv]; exact Bool.and_false _
theorem zm_nc_2 {s : Nat → Nat → Nat → Bool} {A : Nat → Nat} {v who t o : Nat} (h : o ≠ who) (hv : A o + 1 ≠ v) : zm_nc s A v who t o = false := by unfold zm_nc; rw [if_neg h, decide_eq_false hv]; exact Bool.and_false _
theorem zm_nc_3 {s : Nat → Nat → Nat → Bool} {A : Nat → Nat} {v who t o : Nat} (h : o = who) (hv : A o + 0 = v) : zm_nc s A v who t o = true := by unfold zm_nc; rw [if_pos h, decide_eq_true hv, decide_eq_true h]; rfl
theorem zm_nc_4 {s : Nat → Nat → Nat → Bool} {A : Nat → Nat} {v who t o : Nat} (h : o ≠ who) (hs : s who o t = true) (hv : A o + 1 = v) : zm_nc s A v who t o = true := by unfold zm_nc; rw [if_neg h, decide_eq_true hv, hs, decide_eq_false h]; rfl
theorem zm_f1_y {s : Nat → Bool} {d f w : Nat} (h : s w = true) : zv_f1 s d (f + 1) w = w := if_pos h
theorem zm_f1_n {s : Nat → Bool} {d f w : Nat} (h : s w = false) : zv_f1 s d (f + 1) w = zv_f1 s d f (w + 1) := if_neg (by rw [h]; decide)
theorem zm_f1_lt {s : Nat → Bool} {d : Nat} : ∀ f w, (∃ o, w ≤ o ∧ o < w + f ∧ s o = true) → zv_f1 s d f w < w + f
  | 0, w, ⟨o, h1, h2, _⟩ => by omega
  | f + 1, w, ⟨o, h1, h2, h3⟩ => by
    cases h : s w
    · rw [zm_f1_n h]
      have hne : o ≠ w := fun e => by rw [e, h] at h3; exact absurd h3 (by decide)
      have e := zm_f1_lt (s := s) (d := d) f (w + 1) ⟨o, by omega, by omega, h3⟩
      omega
    · rw [zm_f1_y h]; omega
def zm_fw (s : Nat → Nat → Nat → Bool) (n q t sn : Nat) : Nat → Nat → Nat
  | 0 => fun w => if w = q then 0 else 1000000
  | d + 1 => fun w => zm_fo (fun o9 => decide (o9 ≠ w) && s w o9 (t + (sn - 1 - d))) (zm_fw s n q t sn d) (zm_fw s n q t sn d w) n
theorem zm_fw_le (s : Nat → Nat → Nat → Bool) (n q t sn : Nat) : ∀ d w, zm_fw s n q t sn d w ≤ 1000000
  | 0, w => by simp only [zm_fw]; split <;> decide
  | d + 1, w => Nat.le_trans (zm_fo_le _ _ _ n) (zm_fw_le s n q t sn d w)
theorem zm_fo_ex {c : Nat → Bool} {v : Nat → Nat} {x : Nat} : ∀ m, zm_fo c v x m = x ∨ ∃ o, o < m ∧ c o = true ∧ zm_fo c v x m = v o + 1
  | 0 => Or.inl rfl
  | m + 1 => by
    have e := zm_fo_ex (c := c) (v := v) (x := x) m
    cases h : c m
    · rw [zm_fo_n h]
      rcases e with e | ⟨o, h1, h2, h3⟩
      · exact Or.inl e
      · exact Or.inr ⟨o, by omega, h2, h3⟩
    · rw [zm_fo_y h]
      by_cases h9 : zm_fo c v x m ≤ v m + 1
      · rw [Nat.min_eq_left h9]
        rcases e with e | ⟨o, h1, h2, h3⟩
        · exact Or.inl e
        · exact Or.inr ⟨o, by omega, h2, h3⟩
      · exact Or.inr ⟨m, by omega, h, Nat.min_eq_right (by omega)⟩
theorem zm_fw_ex {s : Nat → Nat → Nat → Bool} {n q t sn w k : Nat} (hw : w < n) (hk : k < sn) : ∃ o9, o9 < n ∧ zm_nc s (zm_fw s n q t sn (sn - k - 1)) (zm_fw s n q t sn (sn - k) w) w (t + k) o9 = true := by
  obtain ⟨d, hd⟩ : ∃ d, sn - k = d + 1 := ⟨sn - k - 1, by omega⟩
  rw [hd, show d + 1 - 1 = d from rfl]
  have hk2 : sn - 1 - d = k := by omega
  rcases zm_fo_ex (c := fun o9 => decide (o9 ≠ w) && s w o9 (t + (sn - 1 - d))) (v := zm_fw s n q t sn d) (x := zm_fw s n q t sn d w) n with e | ⟨o, h1, h2, h3⟩
  · exact ⟨w, hw, zm_nc_3 rfl e.symm⟩
  · simp only [Bool.and_eq_true, decide_eq_true_eq] at h2
    exact ⟨o, h1, zm_nc_4 h2.1 (hk2 ▸ h2.2) h3.symm⟩
def zm_hold (s : Nat → Nat → Nat → Bool) (n q t sn p : Nat) : Nat → Nat
  | 0 => p
  | k + 1 => zv_f1 (zm_nc s (zm_fw s n q t sn (sn - k - 1)) (zm_fw s n q t sn (sn - k) (zm_hold s n q t sn p k)) (zm_hold s n q t sn p k) (t + k)) 0 n 0
theorem zm_hold_lt {s : Nat → Nat → Nat → Bool} {n q t sn p : Nat} (hp : p < n) : ∀ k, k ≤ sn → zm_hold s n q t sn p k < n
  | 0, _ => hp
  | k + 1, h => by
    have e := zm_hold_lt (s := s) (q := q) (t := t) (sn := sn) hp k (by omega)
    obtain ⟨o, h1, h2⟩ := zm_fw_ex (s := s) (q := q) (t := t) e (show k < sn by omega)
    have e2 := zm_f1_lt (d := 0) n 0 ⟨o, Nat.zero_le _, by omega, h2⟩
    rw [Nat.zero_add] at e2
    exact e2

abbrev rm_X8_nextOf : Room := { frames := 1, cells := 0, slots := 0, locals := 24 }
theorem dvX8_nextOf : zk_dv yX8_nextOf RX8 3 := by decide +kernel
theorem gmX8_nextOf_X8_sawAt : GoodIn wmX8_nextOf (wsV RX8 223 RX8 yX8_sawAt wmX8_sawAt) := goodIn_app (wa8_w (List.forall_mem_cons.mpr ⟨wa8_165, List.forall_mem_cons.mpr ⟨wa8_166, List.forall_mem_cons.mpr ⟨wa8_167, List.forall_mem_cons.mpr ⟨wa8_43, fun _ h => absurd h List.not_mem_nil⟩⟩⟩⟩)) (wa8_sub wa8_157)
set_option maxRecDepth 100000 in
set_option maxHeartbeats 400000 in
theorem ct_X8_nextOf (l : Launch) (D : va_G) (g : Nat → ClassId) (τ : Nat → Nat) (b : Nat → Nat) (m : Nat → Int32) (tl : Bool) (ev : (Nat → Int32) → Int32) (n : Nat) (M : Nat → Nat) (SN : Nat → Int32) (PR : Nat → Nat) (FW : Nat → Nat) (A9 : Nat → Nat) (v9 : Nat) (who : Nat) (t : Nat) (k : Nat) (hW : zs_W n M (zm_S M)) (hok : zm_ok tl ev M n 49 SN PR) (hwho : who < n) (htt : t < 2 ^ 29) (hk9 : k < 600) (hA9 : ∀ o9, o9 < n → FW (7 * (k + 1) + o9) = A9 o9) (hv9 : FW (7 * k + who) = v9) (hA1 : ∀ o9, A9 o9 ≤ 1000000) (hv1 : v9 ≤ 1000000) (hex : ∃ o9, o9 < n ∧ (zm_nc (zs_meet tl ev M (zm_S M) (zm_R M) (M 21)) A9 v9 who (t + k)) o9 = true) : zk_MI l D g τ yX8_nextOf wmX8_nextOf rm_X8_nextOf [.ref (b 100), .int (nI who), .int (nI t), .int (nI k)] [(b 100, .inr (8, [.ref (b 0), .ref (b 1), .ref (b 2), .ref (b 3), .int (m 4), .int (m 5), .int (nI n), .int (m 7), .ref (b 8), .int (m 9), .ref (b 10), .int (m 11), .int (m 12), .int (m 13), .int (m 14), .int (m 15), .int (m 16), .ref (b 17), .ref (b 18), .ref (b 19), .ref (b 20), .ref (b 21), .ref (b 22), .ref (b 23), .ref (b 24), .int (m 25), .int (m 26), .int (m 27), .int (m 28), .ref (b 29), .ref (b 30), .int (m 31), .int (m 32), .int (m 33), .int (m 34), .int (m 35), .ref (b 36), .ref (b 37), .int (m 38), .ref (b 39), .ref (b 40), .int (m 41), .int (m 42), .int (m 43), .ref (b 44), .ref (b 45), .ref (b 46), .ref (b 47)])), (b 18, .inl (g 3, 6468, .inl SN)), (b 19, .inl (g 0, 49, .inl (fun i => nI (PR i)))), (b 22, .inl (g 0, 4207, .inl (fun i => nI (FW i))))] (fun (r : Int32) (_ : Unit) => r = nI (zv_f1 (zm_nc (zs_meet tl ev M (zm_S M) (zm_R M) (M 21)) A9 v9 who (t + k)) 0 n 0)) (fun (_ : Unit) => [(b 100, .inr (8, [.ref (b 0), .ref (b 1), .ref (b 2), .ref (b 3), .int (m 4), .int (m 5), .int (nI n), .int (m 7), .ref (b 8), .int (m 9), .ref (b 10), .int (m 11), .int (m 12), .int (m 13), .int (m 14), .int (m 15), .int (m 16), .ref (b 17), .ref (b 18), .ref (b 19), .ref (b 20), .ref (b 21), .ref (b 22), .ref (b 23), .ref (b 24), .int (m 25), .int (m 26), .int (m 27), .int (m 28), .ref (b 29), .ref (b 30), .int (m 31), .int (m 32), .int (m 33), .int (m 34), .int (m 35), .ref (b 36), .ref (b 37), .int (m 38), .ref (b 39), .ref (b 40), .int (m 41), .int (m 42), .int (m 43), .ref (b 44), .ref (b 45), .ref (b 46), .ref (b 47)])), (b 18, .inl (g 3, 6468, .inl SN)), (b 19, .inl (g 0, 49, .inl (fun i => nI (PR i)))), (b 22, .inl (g 0, 4207, .inl (fun i => nI (FW i))))]) := by
  refine zk_of (av := [.ref (b 100), .int (nI who), .int (nI t), .int (nI k)]) (W0 := [(b 100, .inr (8, [.ref (b 0), .ref (b 1), .ref (b 2), .ref (b 3), .int (m 4), .int (m 5), .int (nI n), .int (m 7), .ref (b 8), .int (m 9), .ref (b 10), .int (m 11), .int (m 12), .int (m 13), .int (m 14), .int (m 15), .int (m 16), .ref (b 17), .ref (b 18), .ref (b 19), .ref (b 20), .ref (b 21), .ref (b 22), .ref (b 23), .ref (b 24), .int (m 25), .int (m 26), .int (m 27), .int (m 28), .ref (b 29), .ref (b 30), .int (m 31), .int (m 32), .int (m 33), .int (m 34), .int (m 35), .ref (b 36), .ref (b 37), .int (m 38), .ref (b 39), .ref (b 40), .int (m 41), .int (m 42), .int (m 43), .ref (b 44), .ref (b 45), .ref (b 46), .ref (b 47)])), (b 18, .inl (g 3, 6468, .inl SN)), (b 19, .inl (g 0, 49, .inl (fun i => nI (PR i)))), (b 22, .inl (g 0, 4207, .inl (fun i => nI (FW i))))]) (y := yX8_nextOf) (wd := wmX8_nextOf) (Qc := fun A => va_Qi (fun (r : Int32) (_ : Unit) => r = nI (zv_f1 (zm_nc (zs_meet tl ev M (zm_S M) (zm_R M) (M 21)) A9 v9 who (t + k)) 0 n 0)) (zk_B D g A (fun (_ : Unit) => [(b 100, .inr (8, [.ref (b 0), .ref (b 1), .ref (b 2), .ref (b 3), .int (m 4), .int (m 5), .int (nI n), .int (m 7), .ref (b 8), .int (m 9), .ref (b 10), .int (m 11), .int (m 12), .int (m 13), .int (m 14), .int (m 15), .int (m 16), .ref (b 17), .ref (b 18), .ref (b 19), .ref (b 20), .ref (b 21), .ref (b 22), .ref (b 23), .ref (b 24), .int (m 25), .int (m 26), .int (m 27), .int (m 28), .ref (b 29), .ref (b 30), .int (m 31), .int (m 32), .int (m 33), .int (m 34), .int (m 35), .ref (b 36), .ref (b 37), .int (m 38), .ref (b 39), .ref (b 40), .int (m 41), .int (m 42), .int (m 43), .ref (b 44), .ref (b 45), .ref (b 46), .ref (b 47)])), (b 18, .inl (g 3, 6468, .inl SN)), (b 19, .inl (g 0, 49, .inl (fun i => nI (PR i)))), (b 22, .inl (g 0, 4207, .inl (fun i => nI (FW i))))])) A) (cc := cX8_nextOf) (maxL := 7) (ret := (some .int)) (own := RX8) (by decide) rfl rfl (Nat.le_of_ble_eq_true rfl) ?_
  intro pP eE sS mM args below meth cC aA ls qQ Z hR_ hlk hnm hK hT hA hQ G hl
  have hinX8 : ∀ w ∈ u_ws RX8 TX8 48, w ∈ wmX8_nextOf := wa8_in
  have hn := hW.1
  obtain ⟨V, hV⟩ : ∃ V, V = zv_f1 (zm_nc (zs_meet tl ev M (zm_S M) (zm_R M) (M 21)) A9 v9 who (t + k)) 0 n 0 := ⟨_, rfl⟩
  refine lv_iconst (v := nI 0) Z.1 Z.2.1 dX8_nextOf_0 (by decide +kernel) ?_
  refine lv_istore (lv' := [(4, .int (nI 0)), (0, .ref (b 100)), (1, .int (nI who)), (2, .int (nI t)), (3, .int (nI k))]) Z.1 Z.2.1 dX8_nextOf_1 hl (by decide) rfl (fun ls hl => ?_)
  have L3 : ∀ (nN : Nat) (o : Nat), n - o < nN → (o ≤ n) → (zv_f1 (zm_nc (zs_meet tl ev M (zm_S M) (zm_R M) (M 21)) A9 v9 who (t + k)) 0 (n - o) o = V) → (∀ o9, o9 < o → (zm_nc (zs_meet tl ev M (zm_S M) (zm_R M) (M 21)) A9 v9 who (t + k)) o9 = false) → ∀ (H : Heap) (locs : List Loc) (ls : Array Slot), zk_G D aA [(b 100, .inr (8, [.ref (b 0), .ref (b 1), .ref (b 2), .ref (b 3), .int (m 4), .int (m 5), .int (nI n), .int (m 7), .ref (b 8), .int (m 9), .ref (b 10), .int (m 11), .int (m 12), .int (m 13), .int (m 14), .int (m 15), .int (m 16), .ref (b 17), .ref (b 18), .ref (b 19), .ref (b 20), .ref (b 21), .ref (b 22), .ref (b 23), .ref (b 24), .int (m 25), .int (m 26), .int (m 27), .int (m 28), .ref (b 29), .ref (b 30), .int (m 31), .int (m 32), .int (m 33), .int (m 34), .int (m 35), .ref (b 36), .ref (b 37), .int (m 38), .ref (b 39), .ref (b 40), .int (m 41), .int (m 42), .int (m 43), .ref (b 44), .ref (b 45), .ref (b 46), .ref (b 47)])), (b 18, .inl (g 3, 6468, .inl SN)), (b 19, .inl (g 0, 49, .inl (fun i => nI (PR i)))), (b 22, .inl (g 0, 4207, .inl (fun i => nI (FW i))))] sS H locs → lv_has ls 7 [(0, .ref (b 100)), (1, .int (nI who)), (2, .int (nI t)), (3, .int (nI k)), (4, .int (nI o))] → W pP l eE rm_X8_nextOf sS mM args below meth cC H locs 0 0 qQ (F0 mM 3 ls []) := by
    intro nN
    induction nN with
    | zero => intros; omega
    | succ nN ih3 =>
      intro o hμ h1 hs hno H locs ls G hl
      refine lv_iload Z.1 Z.2.1 dX8_nextOf_3 (lv_at hl 4 rfl) ?_
      refine lv_aload_n Z.1 Z.2.1 dX8_nextOf_5 rfl (lv_at hl 0 rfl) ?_
      refine zk_get (C := RX8) (T := TX8) (N := 48) (ci := 8) Z hK G hinX8 0 rfl rfl 6 (by decide) (List.mem_cons_of_mem _ wa8_40) rfl (v := .int (nI n)) rfl dX8_nextOf_6 ?_
      refine lv_icmp_ge (tgt := 96) Z.1 Z.2.1 dX8_nextOf_9 (by decide) (fun c9 => ?_) (fun c9 => ?_)
      · exfalso
        have c9 : n ≤ o := zk_le (by omega) (by omega) c9
        obtain ⟨o9, h9, h8⟩ := hex; exact absurd ((hno o9 (by omega)).symm.trans h8) (by decide)
      have c9 : o < n := zk_nle (by omega) (by omega) c9
      obtain ⟨f, hf⟩ : ∃ f, n - o = f + 1 := ⟨n - o - 1, by omega⟩
      have ho9 := hA1 o
      refine lv_iload Z.1 Z.2.1 dX8_nextOf_12 (lv_at hl 4 rfl) ?_
      refine lv_iload_n Z.1 Z.2.1 dX8_nextOf_14 rfl (lv_at hl 1 rfl) ?_
      refine lv_icmp_eq (tgt := 31) Z.1 Z.2.1 dX8_nextOf_15 (by decide) (fun c15 => ?_) (fun c15 => ?_)
      · have c15 : o = who := zk_eq (by omega) (by omega) c15
        refine lv_iconst (v := nI 1) Z.1 Z.2.1 dX8_nextOf_31 (by decide +kernel) ?_
        refine lv_goto (tgt := 36) Z.1 Z.2.1 dX8_nextOf_32 (by decide) ?_
        refine lv_istore (lv' := [(5, .int (nI 1)), (0, .ref (b 100)), (1, .int (nI who)), (2, .int (nI t)), (3, .int (nI k)), (4, .int (nI o))]) Z.1 Z.2.1 dX8_nextOf_36 hl (by decide) rfl (fun ls hl => ?_)
        refine lv_iload Z.1 Z.2.1 dX8_nextOf_38 (lv_at hl 5 rfl) ?_
        refine lv_iload_n Z.1 Z.2.1 dX8_nextOf_40 rfl (lv_at hl 2 rfl) ?_
        refine lv_icmp_ne (tgt := 48) Z.1 Z.2.1 dX8_nextOf_41 (by decide) (fun c41 => ?_) (fun c41 => ?_)
        · exfalso
          have c41 : o ≠ who := zk_neq (by omega) (by omega) c41
          omega
        have c41 : o = who := zk_eq (by omega) (by omega) c41
        refine lv_iconst (v := nI 0) Z.1 Z.2.1 dX8_nextOf_44 (by decide +kernel) ?_
        refine lv_goto (tgt := 49) Z.1 Z.2.1 dX8_nextOf_45 (by decide) ?_
        refine lv_istore (lv' := [(6, .int (nI 0)), (5, .int (nI 1)), (0, .ref (b 100)), (1, .int (nI who)), (2, .int (nI t)), (3, .int (nI k)), (4, .int (nI o))]) Z.1 Z.2.1 dX8_nextOf_49 hl (by decide) rfl (fun ls hl => ?_)
        refine lv_iload Z.1 Z.2.1 dX8_nextOf_51 (lv_at hl 1 rfl) ?_
        refine lv_if_eq (tgt := 90) Z.1 Z.2.1 dX8_nextOf_53 (by decide) (fun c53 => ?_) (fun c53 => ?_)
        · exfalso
          have c53 : 1 = 0 := zk_eq (by omega) (by omega) c53
          omega
        have c53 : 1 ≠ 0 := zk_neq (by omega) (by omega) c53
        refine lv_aload_n Z.1 Z.2.1 dX8_nextOf_56 rfl (lv_at hl 2 rfl) ?_
        refine zk_get (C := RX8) (T := TX8) (N := 48) (ci := 8) Z hK G hinX8 0 rfl rfl 22 (by decide) (List.mem_cons_of_mem _ wa8_19) rfl (v := .ref (b 22)) rfl dX8_nextOf_57 ?_
        refine lv_bipush (v := nI 7) Z.1 Z.2.1 dX8_nextOf_60 (by decide +kernel) ?_
        refine lv_iload_n Z.1 Z.2.1 dX8_nextOf_62 rfl (lv_at hl 5 rfl) ?_
        refine lv_iconst (v := nI 1) Z.1 Z.2.1 dX8_nextOf_63 (by decide +kernel) ?_
        refine zk_iadd Z dX8_nextOf_64 (z := nI (k + 1)) (nI_add _ _) ?_
        refine zk_imul Z dX8_nextOf_65 (z := nI (7 * (k + 1))) (pk_mul _ _) ?_
        refine lv_iload Z.1 Z.2.1 dX8_nextOf_66 (lv_at hl 6 rfl) ?_
        refine zk_iadd Z dX8_nextOf_68 (z := nI (7 * (k + 1) + o)) (nI_add _ _) ?_
        refine zk_iald Z hK G 3 rfl (k := 7 * (k + 1) + o) (by omega) (by decide) (v := nI (A9 o)) (congrArg nI (hA9 o (by omega))) dX8_nextOf_69 ?_
        refine lv_iload Z.1 Z.2.1 dX8_nextOf_70 (lv_at hl 0 rfl) ?_
        refine zk_iadd Z dX8_nextOf_72 (z := nI (A9 o + 0)) (nI_add _ _) ?_
        refine lv_aload_n Z.1 Z.2.1 dX8_nextOf_73 rfl (lv_at hl 2 rfl) ?_
        refine zk_get (C := RX8) (T := TX8) (N := 48) (ci := 8) Z hK G hinX8 0 rfl rfl 22 (by decide) (List.mem_cons_of_mem _ wa8_19) rfl (v := .ref (b 22)) rfl dX8_nextOf_74 ?_
        refine lv_bipush (v := nI 7) Z.1 Z.2.1 dX8_nextOf_77 (by decide +kernel) ?_
        refine lv_iload_n Z.1 Z.2.1 dX8_nextOf_79 rfl (lv_at hl 5 rfl) ?_
        refine zk_imul Z dX8_nextOf_80 (z := nI (7 * k)) (pk_mul _ _) ?_
        refine lv_iload_n Z.1 Z.2.1 dX8_nextOf_81 rfl (lv_at hl 3 rfl) ?_
        refine zk_iadd Z dX8_nextOf_82 (z := nI (7 * k + who)) (nI_add _ _) ?_
        refine zk_iald Z hK G 3 rfl (k := 7 * k + who) (by omega) (by decide) (v := nI v9) (congrArg nI hv9) dX8_nextOf_83 ?_
        refine lv_icmp_ne (tgt := 90) Z.1 Z.2.1 dX8_nextOf_84 (by decide) (fun c84 => ?_) (fun c84 => ?_)
        · have c84 : A9 o + 0 ≠ v9 := zk_neq (by omega) (by omega) c84
          refine lv_iinc (v := nI (o + 1)) (lv' := [(4, .int (nI (o + 1))), (6, .int (nI 0)), (5, .int (nI 1)), (0, .ref (b 100)), (1, .int (nI who)), (2, .int (nI t)), (3, .int (nI k))]) Z.1 Z.2.1 dX8_nextOf_90 hl (k := 6) rfl (zk_inc o 1) (by decide) rfl (fun ls hl => ?_)
          refine lv_goto (tgt := 3) Z.1 Z.2.1 dX8_nextOf_93 (by decide) ?_
          exact ih3 (o + 1) (by omega) (by omega) (by rw [hf, zm_f1_n (zm_nc_1 c15 c84)] at hs; rw [show n - (o + 1) = f by omega]; exact hs) (by intro o9 h9; by_cases e9 : o9 = o; rw [e9]; exact (zm_nc_1 c15 c84); exact hno o9 (by omega)) _ _ _ G (lv_sub hl [3, 4, 5, 6, 0] rfl)
        have c84 : A9 o + 0 = v9 := zk_eq (by omega) (by omega) c84
        refine lv_iload Z.1 Z.2.1 dX8_nextOf_87 (lv_at hl 6 rfl) ?_
        exact zk_reti Z hR_ hlk hK hQ G () (congrArg nI (by rw [← hV, ← hs, hf]; exact (zm_f1_y (zm_nc_3 c15 c84)).symm)) rfl dX8_nextOf_89
      have c15 : o ≠ who := zk_neq (by omega) (by omega) c15
      refine lv_aload_n Z.1 Z.2.1 dX8_nextOf_18 rfl (lv_at hl 0 rfl) ?_
      refine lv_iload_n Z.1 Z.2.1 dX8_nextOf_19 rfl (lv_at hl 1 rfl) ?_
      refine lv_iload Z.1 Z.2.1 dX8_nextOf_20 (lv_at hl 4 rfl) ?_
      refine lv_iload_n Z.1 Z.2.1 dX8_nextOf_22 rfl (lv_at hl 2 rfl) ?_
      refine lv_iload_n Z.1 Z.2.1 dX8_nextOf_23 rfl (lv_at hl 3 rfl) ?_
      refine zk_iadd Z dX8_nextOf_24 (z := nI (t + k)) (nI_add _ _) ?_
      refine zk_ci (WF := fun (_ : Unit) => [(b 100, .inr (8, [.ref (b 0), .ref (b 1), .ref (b 2), .ref (b 3), .int (m 4), .int (m 5), .int (nI n), .int (m 7), .ref (b 8), .int (m 9), .ref (b 10), .int (m 11), .int (m 12), .int (m 13), .int (m 14), .int (m 15), .int (m 16), .ref (b 17), .ref (b 18), .ref (b 19), .ref (b 20), .ref (b 21), .ref (b 22), .ref (b 23), .ref (b 24), .int (m 25), .int (m 26), .int (m 27), .int (m 28), .ref (b 29), .ref (b 30), .int (m 31), .int (m 32), .int (m 33), .int (m 34), .int (m 35), .ref (b 36), .ref (b 37), .int (m 38), .ref (b 39), .ref (b 40), .int (m 41), .int (m 42), .int (m 43), .ref (b 44), .ref (b 45), .ref (b 46), .ref (b 47)])), (b 18, .inl (g 3, 6468, .inl SN)), (b 19, .inl (g 0, 49, .inl (fun i => nI (PR i)))), (b 22, .inl (g 0, 4207, .inl (fun i => nI (FW i))))]) (wr := [(b 22, .inl (g 0, 4207, .inl (fun i => nI (FW i))))]) ⟨rfl, rfl⟩ (zk_rv (As := [.int (nI who), .int (nI o), .int (nI (t + k))]) (rest := []) (q0 := 0) (ci := 8) Z ((ct_X8_sawAt l D g τ b (upd m 6 (nI n)) tl ev n M SN PR who o (t + k) (by exact hW) (by exact hok) (by exact hwho) (by omega) (by omega) (by omega)) H.size) hK hT hA G [0, 1, 2] rfl (by decide) rfl rfl gmX8_nextOf_X8_sawAt rfl dvX8_sawAt ⟨by decide, by decide⟩ rfl hl.1 rfl (Nat.le_of_ble_eq_true rfl) dX8_nextOf_25 ⟨Nat.zero_le _, Nat.zero_le _⟩) hA G [0, 1, 2] [3] [1, 2, 3, 0] rfl rfl (by decide) (by decide) (by decide) (fun _ => rfl) (fun r_25 _ H locs w_25 G => ?_)
      obtain rfl : r_25 = zk_b (zs_meet tl ev M (zm_S M) (zm_R M) (M 21) who o (t + k)) := w_25
      refine lv_if_eq (tgt := 35) Z.1 Z.2.1 dX8_nextOf_28 (by decide) (fun c28 => ?_) (fun c28 => ?_)
      · have c28 : (zs_meet tl ev M (zm_S M) (zm_R M) (M 21) who o (t + k)) = false := zk_b0.mp c28
        refine lv_iconst (v := nI 0) Z.1 Z.2.1 dX8_nextOf_35 (by decide +kernel) ?_
        refine lv_istore (lv' := [(5, .int (nI 0)), (0, .ref (b 100)), (1, .int (nI who)), (2, .int (nI t)), (3, .int (nI k)), (4, .int (nI o))]) Z.1 Z.2.1 dX8_nextOf_36 hl (by decide) rfl (fun ls hl => ?_)
        refine lv_iload Z.1 Z.2.1 dX8_nextOf_38 (lv_at hl 5 rfl) ?_
        refine lv_iload_n Z.1 Z.2.1 dX8_nextOf_40 rfl (lv_at hl 2 rfl) ?_
        refine lv_icmp_ne (tgt := 48) Z.1 Z.2.1 dX8_nextOf_41 (by decide) (fun c41 => ?_) (fun c41 => ?_)
        · have c41 : o ≠ who := zk_neq (by omega) (by omega) c41
          refine lv_iconst (v := nI 1) Z.1 Z.2.1 dX8_nextOf_48 (by decide +kernel) ?_
          refine lv_istore (lv' := [(6, .int (nI 1)), (5, .int (nI 0)), (0, .ref (b 100)), (1, .int (nI who)), (2, .int (nI t)), (3, .int (nI k)), (4, .int (nI o))]) Z.1 Z.2.1 dX8_nextOf_49 hl (by decide) rfl (fun ls hl => ?_)
          refine lv_iload Z.1 Z.2.1 dX8_nextOf_51 (lv_at hl 1 rfl) ?_
          refine lv_if_eq (tgt := 90) Z.1 Z.2.1 dX8_nextOf_53 (by decide) (fun c53 => ?_) (fun c53 => ?_)
          · have c53 : 0 = 0 := zk_eq (by omega) (by omega) c53
            refine lv_iinc (v := nI (o + 1)) (lv' := [(4, .int (nI (o + 1))), (6, .int (nI 1)), (5, .int (nI 0)), (0, .ref (b 100)), (1, .int (nI who)), (2, .int (nI t)), (3, .int (nI k))]) Z.1 Z.2.1 dX8_nextOf_90 hl (k := 6) rfl (zk_inc o 1) (by decide) rfl (fun ls hl => ?_)
            refine lv_goto (tgt := 3) Z.1 Z.2.1 dX8_nextOf_93 (by decide) ?_
            exact ih3 (o + 1) (by omega) (by omega) (by rw [hf, zm_f1_n (zm_nc_n c15 c28)] at hs; rw [show n - (o + 1) = f by omega]; exact hs) (by intro o9 h9; by_cases e9 : o9 = o; rw [e9]; exact (zm_nc_n c15 c28); exact hno o9 (by omega)) _ _ _ G (lv_sub hl [3, 4, 5, 6, 0] rfl)
          exfalso
          have c53 : 0 ≠ 0 := zk_neq (by omega) (by omega) c53
          omega
        exfalso
        have c41 : o = who := zk_eq (by omega) (by omega) c41
        omega
      have c28 : (zs_meet tl ev M (zm_S M) (zm_R M) (M 21) who o (t + k)) = true := zk_b1.mp c28
      refine lv_iconst (v := nI 1) Z.1 Z.2.1 dX8_nextOf_31 (by decide +kernel) ?_
      refine lv_goto (tgt := 36) Z.1 Z.2.1 dX8_nextOf_32 (by decide) ?_
      refine lv_istore (lv' := [(5, .int (nI 1)), (0, .ref (b 100)), (1, .int (nI who)), (2, .int (nI t)), (3, .int (nI k)), (4, .int (nI o))]) Z.1 Z.2.1 dX8_nextOf_36 hl (by decide) rfl (fun ls hl => ?_)
      refine lv_iload Z.1 Z.2.1 dX8_nextOf_38 (lv_at hl 5 rfl) ?_
      refine lv_iload_n Z.1 Z.2.1 dX8_nextOf_40 rfl (lv_at hl 2 rfl) ?_
      refine lv_icmp_ne (tgt := 48) Z.1 Z.2.1 dX8_nextOf_41 (by decide) (fun c41 => ?_) (fun c41 => ?_)
      · have c41 : o ≠ who := zk_neq (by omega) (by omega) c41
        refine lv_iconst (v := nI 1) Z.1 Z.2.1 dX8_nextOf_48 (by decide +kernel) ?_
        refine lv_istore (lv' := [(6, .int (nI 1)), (5, .int (nI 1)), (0, .ref (b 100)), (1, .int (nI who)), (2, .int (nI t)), (3, .int (nI k)), (4, .int (nI o))]) Z.1 Z.2.1 dX8_nextOf_49 hl (by decide) rfl (fun ls hl => ?_)
        refine lv_iload Z.1 Z.2.1 dX8_nextOf_51 (lv_at hl 1 rfl) ?_
        refine lv_if_eq (tgt := 90) Z.1 Z.2.1 dX8_nextOf_53 (by decide) (fun c53 => ?_) (fun c53 => ?_)
        · exfalso
          have c53 : 1 = 0 := zk_eq (by omega) (by omega) c53
          omega
        have c53 : 1 ≠ 0 := zk_neq (by omega) (by omega) c53
        refine lv_aload_n Z.1 Z.2.1 dX8_nextOf_56 rfl (lv_at hl 2 rfl) ?_
        refine zk_get (C := RX8) (T := TX8) (N := 48) (ci := 8) Z hK G hinX8 0 rfl rfl 22 (by decide) (List.mem_cons_of_mem _ wa8_19) rfl (v := .ref (b 22)) rfl dX8_nextOf_57 ?_
        refine lv_bipush (v := nI 7) Z.1 Z.2.1 dX8_nextOf_60 (by decide +kernel) ?_
        refine lv_iload_n Z.1 Z.2.1 dX8_nextOf_62 rfl (lv_at hl 5 rfl) ?_
        refine lv_iconst (v := nI 1) Z.1 Z.2.1 dX8_nextOf_63 (by decide +kernel) ?_
        refine zk_iadd Z dX8_nextOf_64 (z := nI (k + 1)) (nI_add _ _) ?_
        refine zk_imul Z dX8_nextOf_65 (z := nI (7 * (k + 1))) (pk_mul _ _) ?_
        refine lv_iload Z.1 Z.2.1 dX8_nextOf_66 (lv_at hl 6 rfl) ?_
        refine zk_iadd Z dX8_nextOf_68 (z := nI (7 * (k + 1) + o)) (nI_add _ _) ?_
        refine zk_iald Z hK G 3 rfl (k := 7 * (k + 1) + o) (by omega) (by decide) (v := nI (A9 o)) (congrArg nI (hA9 o (by omega))) dX8_nextOf_69 ?_
        refine lv_iload Z.1 Z.2.1 dX8_nextOf_70 (lv_at hl 0 rfl) ?_
        refine zk_iadd Z dX8_nextOf_72 (z := nI (A9 o + 1)) (nI_add _ _) ?_
        refine lv_aload_n Z.1 Z.2.1 dX8_nextOf_73 rfl (lv_at hl 2 rfl) ?_
        refine zk_get (C := RX8) (T := TX8) (N := 48) (ci := 8) Z hK G hinX8 0 rfl rfl 22 (by decide) (List.mem_cons_of_mem _ wa8_19) rfl (v := .ref (b 22)) rfl dX8_nextOf_74 ?_
        refine lv_bipush (v := nI 7) Z.1 Z.2.1 dX8_nextOf_77 (by decide +kernel) ?_
        refine lv_iload_n Z.1 Z.2.1 dX8_nextOf_79 rfl (lv_at hl 5 rfl) ?_
        refine zk_imul Z dX8_nextOf_80 (z := nI (7 * k)) (pk_mul _ _) ?_
        refine lv_iload_n Z.1 Z.2.1 dX8_nextOf_81 rfl (lv_at hl 3 rfl) ?_
        refine zk_iadd Z dX8_nextOf_82 (z := nI (7 * k + who)) (nI_add _ _) ?_
        refine zk_iald Z hK G 3 rfl (k := 7 * k + who) (by omega) (by decide) (v := nI v9) (congrArg nI hv9) dX8_nextOf_83 ?_
        refine lv_icmp_ne (tgt := 90) Z.1 Z.2.1 dX8_nextOf_84 (by decide) (fun c84 => ?_) (fun c84 => ?_)
        · have c84 : A9 o + 1 ≠ v9 := zk_neq (by omega) (by omega) c84
          refine lv_iinc (v := nI (o + 1)) (lv' := [(4, .int (nI (o + 1))), (6, .int (nI 1)), (5, .int (nI 1)), (0, .ref (b 100)), (1, .int (nI who)), (2, .int (nI t)), (3, .int (nI k))]) Z.1 Z.2.1 dX8_nextOf_90 hl (k := 6) rfl (zk_inc o 1) (by decide) rfl (fun ls hl => ?_)
          refine lv_goto (tgt := 3) Z.1 Z.2.1 dX8_nextOf_93 (by decide) ?_
          exact ih3 (o + 1) (by omega) (by omega) (by rw [hf, zm_f1_n (zm_nc_2 c15 c84)] at hs; rw [show n - (o + 1) = f by omega]; exact hs) (by intro o9 h9; by_cases e9 : o9 = o; rw [e9]; exact (zm_nc_2 c15 c84); exact hno o9 (by omega)) _ _ _ G (lv_sub hl [3, 4, 5, 6, 0] rfl)
        have c84 : A9 o + 1 = v9 := zk_eq (by omega) (by omega) c84
        refine lv_iload Z.1 Z.2.1 dX8_nextOf_87 (lv_at hl 6 rfl) ?_
        exact zk_reti Z hR_ hlk hK hQ G () (congrArg nI (by rw [← hV, ← hs, hf]; exact (zm_f1_y (zm_nc_4 c15 c28 c84)).symm)) rfl dX8_nextOf_89
      exfalso
      have c41 : o = who := zk_eq (by omega) (by omega) c41
      omega
  exact L3 _ 0 (Nat.lt_succ_self _) (by omega) (by exact hV.symm) (by intro o9 h9; omega) _ _ _ G (lv_sub hl [1, 2, 3, 4, 0] rfl)

abbrev rm_X8_wayTo : Room := { frames := 2, cells := 0, slots := 0, locals := 50 }
theorem dvX8_wayTo : zk_dv yX8_wayTo RX8 4 := by decide +kernel
theorem gmX8_wayTo_X8_nextOf : GoodIn wmX8_wayTo (wsV RX8 245 RX8 yX8_nextOf wmX8_nextOf) := goodIn_app (wa8_w (List.forall_mem_cons.mpr ⟨wa8_194, List.forall_mem_cons.mpr ⟨wa8_195, List.forall_mem_cons.mpr ⟨wa8_196, List.forall_mem_cons.mpr ⟨wa8_43, fun _ h => absurd h List.not_mem_nil⟩⟩⟩⟩)) (wa8_sub wa8_197)
theorem gmX8_wayTo_X8_sawAt : GoodIn wmX8_wayTo (wsV RX8 223 RX8 yX8_sawAt wmX8_sawAt) := goodIn_app (wa8_w (List.forall_mem_cons.mpr ⟨wa8_165, List.forall_mem_cons.mpr ⟨wa8_166, List.forall_mem_cons.mpr ⟨wa8_167, List.forall_mem_cons.mpr ⟨wa8_43, fun _ h => absurd h List.not_mem_nil⟩⟩⟩⟩)) (wa8_sub wa8_157)
set_option maxRecDepth 100000 in
set_option maxHeartbeats 400000 in
theorem ct_X8_wayTo (l : Launch) (D : va_G) (g : Nat → ClassId) (τ : Nat → Nat) (b : Nat → Nat) (m : Nat → Int32) (tl : Bool) (ev : (Nat → Int32) → Int32) (n : Nat) (M : Nat → Nat) (SN : Nat → Int32) (PR : Nat → Nat) (ST : Nat → Nat) (FW : Nat → Nat) (p : Nat) (q : Nat) (t : Nat) (bh : Nat) (sn : Nat) (hW : zs_W n M (zm_S M)) (hok : zm_ok tl ev M n 49 SN PR) (hp : p < n) (hq : q < n) (htt : t < 2 ^ 29) (hsn : ST p = sn) (hs6 : sn ≤ 600) (hbh : bh ≤ sn) : zk_MI l D g τ yX8_wayTo wmX8_wayTo rm_X8_wayTo [.ref (b 100), .int (nI p), .int (nI q), .int (nI t), .int (nI bh)] [(b 100, .inr (8, [.ref (b 0), .ref (b 1), .ref (b 2), .ref (b 3), .int (m 4), .int (m 5), .int (nI n), .int (m 7), .ref (b 8), .int (m 9), .ref (b 10), .int (m 11), .int (m 12), .int (m 13), .int (m 14), .int (m 15), .int (m 16), .ref (b 17), .ref (b 18), .ref (b 19), .ref (b 20), .ref (b 21), .ref (b 22), .ref (b 23), .ref (b 24), .int (m 25), .int (m 26), .int (m 27), .int (m 28), .ref (b 29), .ref (b 30), .int (m 31), .int (m 32), .int (m 33), .int (m 34), .int (m 35), .ref (b 36), .ref (b 37), .int (m 38), .ref (b 39), .ref (b 40), .int (m 41), .int (m 42), .int (m 43), .ref (b 44), .ref (b 45), .ref (b 46), .ref (b 47)])), (b 18, .inl (g 3, 6468, .inl SN)), (b 19, .inl (g 0, 49, .inl (fun i => nI (PR i)))), (b 20, .inl (g 0, 4207, .inl (fun i => nI (ST i)))), (b 22, .inl (g 0, 4207, .inl (fun i => nI (FW i))))] (fun (r : Int32) (FW1 : Nat → Nat) => (r = nI (zm_hold (zs_meet tl ev M (zm_S M) (zm_R M) (M 21)) n q t sn p bh)) ∧ ((∀ d9, d9 ≤ sn → ∀ w9, w9 < n → FW1 (7 * (sn - d9) + w9) = zm_fw (zs_meet tl ev M (zm_S M) (zm_R M) (M 21)) n q t sn d9 w9))) (fun (FW1 : Nat → Nat) => [(b 100, .inr (8, [.ref (b 0), .ref (b 1), .ref (b 2), .ref (b 3), .int (m 4), .int (m 5), .int (nI n), .int (m 7), .ref (b 8), .int (m 9), .ref (b 10), .int (m 11), .int (m 12), .int (m 13), .int (m 14), .int (m 15), .int (m 16), .ref (b 17), .ref (b 18), .ref (b 19), .ref (b 20), .ref (b 21), .ref (b 22), .ref (b 23), .ref (b 24), .int (m 25), .int (m 26), .int (m 27), .int (m 28), .ref (b 29), .ref (b 30), .int (m 31), .int (m 32), .int (m 33), .int (m 34), .int (m 35), .ref (b 36), .ref (b 37), .int (m 38), .ref (b 39), .ref (b 40), .int (m 41), .int (m 42), .int (m 43), .ref (b 44), .ref (b 45), .ref (b 46), .ref (b 47)])), (b 18, .inl (g 3, 6468, .inl SN)), (b 19, .inl (g 0, 49, .inl (fun i => nI (PR i)))), (b 20, .inl (g 0, 4207, .inl (fun i => nI (ST i)))), (b 22, .inl (g 0, 4207, .inl (fun i => nI (FW1 i))))]) := by
  refine zk_of (av := [.ref (b 100), .int (nI p), .int (nI q), .int (nI t), .int (nI bh)]) (W0 := [(b 100, .inr (8, [.ref (b 0), .ref (b 1), .ref (b 2), .ref (b 3), .int (m 4), .int (m 5), .int (nI n), .int (m 7), .ref (b 8), .int (m 9), .ref (b 10), .int (m 11), .int (m 12), .int (m 13), .int (m 14), .int (m 15), .int (m 16), .ref (b 17), .ref (b 18), .ref (b 19), .ref (b 20), .ref (b 21), .ref (b 22), .ref (b 23), .ref (b 24), .int (m 25), .int (m 26), .int (m 27), .int (m 28), .ref (b 29), .ref (b 30), .int (m 31), .int (m 32), .int (m 33), .int (m 34), .int (m 35), .ref (b 36), .ref (b 37), .int (m 38), .ref (b 39), .ref (b 40), .int (m 41), .int (m 42), .int (m 43), .ref (b 44), .ref (b 45), .ref (b 46), .ref (b 47)])), (b 18, .inl (g 3, 6468, .inl SN)), (b 19, .inl (g 0, 49, .inl (fun i => nI (PR i)))), (b 20, .inl (g 0, 4207, .inl (fun i => nI (ST i)))), (b 22, .inl (g 0, 4207, .inl (fun i => nI (FW i))))]) (y := yX8_wayTo) (wd := wmX8_wayTo) (Qc := fun A => va_Qi (fun (r : Int32) (FW1 : Nat → Nat) => (r = nI (zm_hold (zs_meet tl ev M (zm_S M) (zm_R M) (M 21)) n q t sn p bh)) ∧ ((∀ d9, d9 ≤ sn → ∀ w9, w9 < n → FW1 (7 * (sn - d9) + w9) = zm_fw (zs_meet tl ev M (zm_S M) (zm_R M) (M 21)) n q t sn d9 w9))) (zk_B D g A (fun (FW1 : Nat → Nat) => [(b 100, .inr (8, [.ref (b 0), .ref (b 1), .ref (b 2), .ref (b 3), .int (m 4), .int (m 5), .int (nI n), .int (m 7), .ref (b 8), .int (m 9), .ref (b 10), .int (m 11), .int (m 12), .int (m 13), .int (m 14), .int (m 15), .int (m 16), .ref (b 17), .ref (b 18), .ref (b 19), .ref (b 20), .ref (b 21), .ref (b 22), .ref (b 23), .ref (b 24), .int (m 25), .int (m 26), .int (m 27), .int (m 28), .ref (b 29), .ref (b 30), .int (m 31), .int (m 32), .int (m 33), .int (m 34), .int (m 35), .ref (b 36), .ref (b 37), .int (m 38), .ref (b 39), .ref (b 40), .int (m 41), .int (m 42), .int (m 43), .ref (b 44), .ref (b 45), .ref (b 46), .ref (b 47)])), (b 18, .inl (g 3, 6468, .inl SN)), (b 19, .inl (g 0, 49, .inl (fun i => nI (PR i)))), (b 20, .inl (g 0, 4207, .inl (fun i => nI (ST i)))), (b 22, .inl (g 0, 4207, .inl (fun i => nI (FW1 i))))])) A) (cc := cX8_wayTo) (maxL := 11) (ret := (some .int)) (own := RX8) (by decide) rfl rfl (Nat.le_of_ble_eq_true rfl) ?_
  intro pP eE sS mM args below meth cC aA ls qQ Z hR_ hlk hnm hK hT hA hQ G hl
  have hinX8 : ∀ w ∈ u_ws RX8 TX8 48, w ∈ wmX8_wayTo := wa8_in
  have hn := hW.1
  refine lv_aload_n Z.1 Z.2.1 dX8_wayTo_0 rfl (lv_at hl 0 rfl) ?_
  refine zk_get (C := RX8) (T := TX8) (N := 48) (ci := 8) Z hK G hinX8 0 rfl rfl 20 (by decide) (List.mem_cons_of_mem _ wa8_17) rfl (v := .ref (b 20)) rfl dX8_wayTo_1 ?_
  refine lv_iload_n Z.1 Z.2.1 dX8_wayTo_4 rfl (lv_at hl 1 rfl) ?_
  refine zk_iald Z hK G 3 rfl (k := p) (by omega) (by decide) (v := nI sn) (congrArg nI hsn) dX8_wayTo_5 ?_
  refine lv_istore (lv' := [(5, .int (nI sn)), (0, .ref (b 100)), (1, .int (nI p)), (2, .int (nI q)), (3, .int (nI t)), (4, .int (nI bh))]) Z.1 Z.2.1 dX8_wayTo_6 hl (by decide) rfl (fun ls hl => ?_)
  refine lv_iconst (v := nI 0) Z.1 Z.2.1 dX8_wayTo_8 (by decide +kernel) ?_
  refine lv_istore (lv' := [(6, .int (nI 0)), (5, .int (nI sn)), (0, .ref (b 100)), (1, .int (nI p)), (2, .int (nI q)), (3, .int (nI t)), (4, .int (nI bh))]) Z.1 Z.2.1 dX8_wayTo_9 hl (by decide) rfl (fun ls hl => ?_)
  have L11 : ∀ (nN : Nat) (w : Nat) (FW1 : Nat → Nat), n - w < nN → (w ≤ n) → (∀ w9, w9 < w → FW1 (7 * sn + w9) = zm_fw (zs_meet tl ev M (zm_S M) (zm_R M) (M 21)) n q t sn 0 w9) → ∀ (H : Heap) (locs : List Loc) (ls : Array Slot), zk_G D aA [(b 100, .inr (8, [.ref (b 0), .ref (b 1), .ref (b 2), .ref (b 3), .int (m 4), .int (m 5), .int (nI n), .int (m 7), .ref (b 8), .int (m 9), .ref (b 10), .int (m 11), .int (m 12), .int (m 13), .int (m 14), .int (m 15), .int (m 16), .ref (b 17), .ref (b 18), .ref (b 19), .ref (b 20), .ref (b 21), .ref (b 22), .ref (b 23), .ref (b 24), .int (m 25), .int (m 26), .int (m 27), .int (m 28), .ref (b 29), .ref (b 30), .int (m 31), .int (m 32), .int (m 33), .int (m 34), .int (m 35), .ref (b 36), .ref (b 37), .int (m 38), .ref (b 39), .ref (b 40), .int (m 41), .int (m 42), .int (m 43), .ref (b 44), .ref (b 45), .ref (b 46), .ref (b 47)])), (b 18, .inl (g 3, 6468, .inl SN)), (b 19, .inl (g 0, 49, .inl (fun i => nI (PR i)))), (b 20, .inl (g 0, 4207, .inl (fun i => nI (ST i)))), (b 22, .inl (g 0, 4207, .inl (fun i => nI (FW1 i))))] sS H locs → lv_has ls 11 [(0, .ref (b 100)), (1, .int (nI p)), (2, .int (nI q)), (3, .int (nI t)), (4, .int (nI bh)), (5, .int (nI sn)), (6, .int (nI w))] → W pP l eE rm_X8_wayTo sS mM args below meth cC H locs 0 0 qQ (F0 mM 11 ls []) := by
    intro nN
    induction nN with
    | zero => intros; omega
    | succ nN ih11 =>
      intro w FW1 hμ h1 ha H locs ls G hl
      refine lv_iload Z.1 Z.2.1 dX8_wayTo_11 (lv_at hl 6 rfl) ?_
      refine lv_aload_n Z.1 Z.2.1 dX8_wayTo_13 rfl (lv_at hl 0 rfl) ?_
      refine zk_get (C := RX8) (T := TX8) (N := 48) (ci := 8) Z hK G hinX8 0 rfl rfl 6 (by decide) (List.mem_cons_of_mem _ wa8_40) rfl (v := .int (nI n)) rfl dX8_wayTo_14 ?_
      refine lv_icmp_ge (tgt := 51) Z.1 Z.2.1 dX8_wayTo_17 (by decide) (fun c17 => ?_) (fun c17 => ?_)
      · have c17 : n ≤ w := zk_le (by omega) (by omega) c17
        refine lv_iload Z.1 Z.2.1 dX8_wayTo_51 (lv_at hl 5 rfl) ?_
        refine lv_iconst (v := nI 1) Z.1 Z.2.1 dX8_wayTo_53 (by decide +kernel) ?_
        refine zk_isub Z dX8_wayTo_54 (z := nI sn - 1) rfl ?_
        refine lv_istore (lv' := [(6, .int (nI sn - 1)), (0, .ref (b 100)), (1, .int (nI p)), (2, .int (nI q)), (3, .int (nI t)), (4, .int (nI bh)), (5, .int (nI sn))]) Z.1 Z.2.1 dX8_wayTo_55 hl (by decide) rfl (fun ls hl => ?_)
        have L57 : ∀ (nN : Nat) (kk : Int32) (d : Nat) (FW1 : Nat → Nat), sn - d < nN → (kk = nI (sn - d) - 1) → (d ≤ sn) → ((∀ d9, d9 ≤ d → ∀ w9, w9 < n → FW1 (7 * (sn - d9) + w9) = zm_fw (zs_meet tl ev M (zm_S M) (zm_R M) (M 21)) n q t sn d9 w9)) → ∀ (H : Heap) (locs : List Loc) (ls : Array Slot), zk_G D aA [(b 100, .inr (8, [.ref (b 0), .ref (b 1), .ref (b 2), .ref (b 3), .int (m 4), .int (m 5), .int (nI n), .int (m 7), .ref (b 8), .int (m 9), .ref (b 10), .int (m 11), .int (m 12), .int (m 13), .int (m 14), .int (m 15), .int (m 16), .ref (b 17), .ref (b 18), .ref (b 19), .ref (b 20), .ref (b 21), .ref (b 22), .ref (b 23), .ref (b 24), .int (m 25), .int (m 26), .int (m 27), .int (m 28), .ref (b 29), .ref (b 30), .int (m 31), .int (m 32), .int (m 33), .int (m 34), .int (m 35), .ref (b 36), .ref (b 37), .int (m 38), .ref (b 39), .ref (b 40), .int (m 41), .int (m 42), .int (m 43), .ref (b 44), .ref (b 45), .ref (b 46), .ref (b 47)])), (b 18, .inl (g 3, 6468, .inl SN)), (b 19, .inl (g 0, 49, .inl (fun i => nI (PR i)))), (b 20, .inl (g 0, 4207, .inl (fun i => nI (ST i)))), (b 22, .inl (g 0, 4207, .inl (fun i => nI (FW1 i))))] sS H locs → lv_has ls 11 [(0, .ref (b 100)), (1, .int (nI p)), (2, .int (nI q)), (3, .int (nI t)), (4, .int (nI bh)), (5, .int (nI sn)), (6, .int kk)] → W pP l eE rm_X8_wayTo sS mM args below meth cC H locs 0 0 qQ (F0 mM 57 ls []) := by
          intro nN
          induction nN with
          | zero => intros; omega
          | succ nN ih57 =>
            intro kk d FW1 hμ hkk hd ha H locs ls G hl
            refine lv_iload Z.1 Z.2.1 dX8_wayTo_57 (lv_at hl 6 rfl) ?_
            refine lv_if_lt (tgt := 198) Z.1 Z.2.1 dX8_wayTo_59 (by decide) (fun c59 => ?_) (fun c59 => ?_)
            · have c59 : kk < 0 := c59
              have hd9 := zm_dn_t hkk (by omega) c59
              refine lv_iload_n Z.1 Z.2.1 dX8_wayTo_198 rfl (lv_at hl 1 rfl) ?_
              refine lv_istore (lv' := [(6, .int (nI p)), (0, .ref (b 100)), (1, .int (nI p)), (2, .int (nI q)), (3, .int (nI t)), (4, .int (nI bh)), (5, .int (nI sn))]) Z.1 Z.2.1 dX8_wayTo_199 hl (by decide) rfl (fun ls hl => ?_)
              have e_1 : p = zm_hold (zs_meet tl ev M (zm_S M) (zm_R M) (M 21)) n q t sn p 0 := rfl
              have hl : lv_has ls 11 [(6, .int (nI (zm_hold (zs_meet tl ev M (zm_S M) (zm_R M) (M 21)) n q t sn p 0))), (0, .ref (b 100)), (1, .int (nI p)), (2, .int (nI q)), (3, .int (nI t)), (4, .int (nI bh)), (5, .int (nI sn))] := by rw [← e_1]; exact hl
              refine lv_iconst (v := nI 0) Z.1 Z.2.1 dX8_wayTo_201 (by decide +kernel) ?_
              refine lv_istore (lv' := [(7, .int (nI 0)), (6, .int (nI (zm_hold (zs_meet tl ev M (zm_S M) (zm_R M) (M 21)) n q t sn p 0))), (0, .ref (b 100)), (1, .int (nI p)), (2, .int (nI q)), (3, .int (nI t)), (4, .int (nI bh)), (5, .int (nI sn))]) Z.1 Z.2.1 dX8_wayTo_202 hl (by decide) rfl (fun ls hl => ?_)
              have L204 : ∀ (nN : Nat) (k : Nat), bh - k < nN → (k ≤ bh) → ∀ (H : Heap) (locs : List Loc) (ls : Array Slot), zk_G D aA [(b 100, .inr (8, [.ref (b 0), .ref (b 1), .ref (b 2), .ref (b 3), .int (m 4), .int (m 5), .int (nI n), .int (m 7), .ref (b 8), .int (m 9), .ref (b 10), .int (m 11), .int (m 12), .int (m 13), .int (m 14), .int (m 15), .int (m 16), .ref (b 17), .ref (b 18), .ref (b 19), .ref (b 20), .ref (b 21), .ref (b 22), .ref (b 23), .ref (b 24), .int (m 25), .int (m 26), .int (m 27), .int (m 28), .ref (b 29), .ref (b 30), .int (m 31), .int (m 32), .int (m 33), .int (m 34), .int (m 35), .ref (b 36), .ref (b 37), .int (m 38), .ref (b 39), .ref (b 40), .int (m 41), .int (m 42), .int (m 43), .ref (b 44), .ref (b 45), .ref (b 46), .ref (b 47)])), (b 18, .inl (g 3, 6468, .inl SN)), (b 19, .inl (g 0, 49, .inl (fun i => nI (PR i)))), (b 20, .inl (g 0, 4207, .inl (fun i => nI (ST i)))), (b 22, .inl (g 0, 4207, .inl (fun i => nI (FW1 i))))] sS H locs → lv_has ls 11 [(0, .ref (b 100)), (1, .int (nI p)), (2, .int (nI q)), (3, .int (nI t)), (4, .int (nI bh)), (5, .int (nI sn)), (6, .int (nI (zm_hold (zs_meet tl ev M (zm_S M) (zm_R M) (M 21)) n q t sn p k))), (7, .int (nI k))] → W pP l eE rm_X8_wayTo sS mM args below meth cC H locs 0 0 qQ (F0 mM 204 ls []) := by
                intro nN
                induction nN with
                | zero => intros; omega
                | succ nN ih204 =>
                  intro k hμ h6 H locs ls G hl
                  have hh9 := zm_hold_lt (s := (zs_meet tl ev M (zm_S M) (zm_R M) (M 21))) (q := q) (t := t) (sn := sn) hp k (by omega)
                  refine lv_iload Z.1 Z.2.1 dX8_wayTo_204 (lv_at hl 7 rfl) ?_
                  refine lv_iload Z.1 Z.2.1 dX8_wayTo_206 (lv_at hl 4 rfl) ?_
                  refine lv_icmp_ge (tgt := 228) Z.1 Z.2.1 dX8_wayTo_208 (by decide) (fun c208 => ?_) (fun c208 => ?_)
                  · have c208 : bh ≤ k := zk_le (by omega) (by omega) c208
                    refine lv_iload Z.1 Z.2.1 dX8_wayTo_228 (lv_at hl 6 rfl) ?_
                    exact zk_reti Z hR_ hlk hK hQ G FW1 ⟨(congrArg nI (by rw [show k = bh by omega])), (by rw [show d = sn by omega] at ha; exact ha)⟩ rfl dX8_wayTo_230
                  have c208 : k < bh := zk_nle (by omega) (by omega) c208
                  refine lv_aload_n Z.1 Z.2.1 dX8_wayTo_211 rfl (lv_at hl 0 rfl) ?_
                  refine lv_iload Z.1 Z.2.1 dX8_wayTo_212 (lv_at hl 6 rfl) ?_
                  refine lv_iload_n Z.1 Z.2.1 dX8_wayTo_214 rfl (lv_at hl 3 rfl) ?_
                  refine lv_iload Z.1 Z.2.1 dX8_wayTo_215 (lv_at hl 7 rfl) ?_
                  refine zk_ci (WF := fun (_ : Unit) => [(b 100, .inr (8, [.ref (b 0), .ref (b 1), .ref (b 2), .ref (b 3), .int (m 4), .int (m 5), .int (nI n), .int (m 7), .ref (b 8), .int (m 9), .ref (b 10), .int (m 11), .int (m 12), .int (m 13), .int (m 14), .int (m 15), .int (m 16), .ref (b 17), .ref (b 18), .ref (b 19), .ref (b 20), .ref (b 21), .ref (b 22), .ref (b 23), .ref (b 24), .int (m 25), .int (m 26), .int (m 27), .int (m 28), .ref (b 29), .ref (b 30), .int (m 31), .int (m 32), .int (m 33), .int (m 34), .int (m 35), .ref (b 36), .ref (b 37), .int (m 38), .ref (b 39), .ref (b 40), .int (m 41), .int (m 42), .int (m 43), .ref (b 44), .ref (b 45), .ref (b 46), .ref (b 47)])), (b 18, .inl (g 3, 6468, .inl SN)), (b 19, .inl (g 0, 49, .inl (fun i => nI (PR i)))), (b 20, .inl (g 0, 4207, .inl (fun i => nI (ST i)))), (b 22, .inl (g 0, 4207, .inl (fun i => nI (FW1 i))))]) (wr := [(b 20, .inl (g 0, 4207, .inl (fun i => nI (ST i))))]) ⟨rfl, rfl⟩ (zk_rv (As := [.int (nI (zm_hold (zs_meet tl ev M (zm_S M) (zm_R M) (M 21)) n q t sn p k)), .int (nI t), .int (nI k)]) (rest := []) (q0 := 0) (ci := 8) Z ((ct_X8_nextOf l D g τ b m tl ev n M SN PR FW1 (zm_fw (zs_meet tl ev M (zm_S M) (zm_R M) (M 21)) n q t sn (sn - k - 1)) (zm_fw (zs_meet tl ev M (zm_S M) (zm_R M) (M 21)) n q t sn (sn - k) (zm_hold (zs_meet tl ev M (zm_S M) (zm_R M) (M 21)) n q t sn p k)) (zm_hold (zs_meet tl ev M (zm_S M) (zm_R M) (M 21)) n q t sn p k) t k (by exact hW) (by exact hok) (by exact hh9) (by exact htt) (by omega) (by intro o9 h9; have e := ha (sn - k - 1) (by omega) o9 h9; rw [show sn - (sn - k - 1) = k + 1 by omega] at e; exact e) (by have e := ha (sn - k) (by omega) (zm_hold (zs_meet tl ev M (zm_S M) (zm_R M) (M 21)) n q t sn p k) hh9; rw [show sn - (sn - k) = k by omega] at e; exact e) (by exact fun o9 => zm_fw_le (zs_meet tl ev M (zm_S M) (zm_R M) (M 21)) n q t sn _ o9) (by exact zm_fw_le (zs_meet tl ev M (zm_S M) (zm_R M) (M 21)) n q t sn _ _) (by exact zm_fw_ex hh9 (by omega))) H.size) hK hT hA G [0, 1, 2, 4] rfl (by decide) rfl rfl gmX8_wayTo_X8_nextOf rfl dvX8_nextOf ⟨by decide, by decide⟩ rfl hl.1 rfl (Nat.le_of_ble_eq_true rfl) dX8_wayTo_217 ⟨Nat.zero_le _, Nat.zero_le _⟩) hA G [0, 1, 2, 4] [3] [1, 2, 3, 0, 4] rfl rfl (by decide) (by decide) (by decide) (fun _ => rfl) (fun r_217 _ H locs w_217 G => ?_)
                  obtain rfl : r_217 = nI (zv_f1 (zm_nc (zs_meet tl ev M (zm_S M) (zm_R M) (M 21)) (zm_fw (zs_meet tl ev M (zm_S M) (zm_R M) (M 21)) n q t sn (sn - k - 1)) (zm_fw (zs_meet tl ev M (zm_S M) (zm_R M) (M 21)) n q t sn (sn - k) (zm_hold (zs_meet tl ev M (zm_S M) (zm_R M) (M 21)) n q t sn p k)) (zm_hold (zs_meet tl ev M (zm_S M) (zm_R M) (M 21)) n q t sn p k) (t + k)) 0 n 0) := w_217
                  refine lv_istore (lv' := [(6, .int (nI (zv_f1 (zm_nc (zs_meet tl ev M (zm_S M) (zm_R M) (M 21)) (zm_fw (zs_meet tl ev M (zm_S M) (zm_R M) (M 21)) n q t sn (sn - k - 1)) (zm_fw (zs_meet tl ev M (zm_S M) (zm_R M) (M 21)) n q t sn (sn - k) (zm_hold (zs_meet tl ev M (zm_S M) (zm_R M) (M 21)) n q t sn p k)) (zm_hold (zs_meet tl ev M (zm_S M) (zm_R M) (M 21)) n q t sn p k) (t + k)) 0 n 0))), (0, .ref (b 100)), (1, .int (nI p)), (2, .int (nI q)), (3, .int (nI t)), (4, .int (nI bh)), (5, .int (nI sn)), (7, .int (nI k))]) Z.1 Z.2.1 dX8_wayTo_220 hl (by decide) rfl (fun ls hl => ?_)
                  have e_2 : zv_f1 (zm_nc (zs_meet tl ev M (zm_S M) (zm_R M) (M 21)) (zm_fw (zs_meet tl ev M (zm_S M) (zm_R M) (M 21)) n q t sn (sn - k - 1)) (zm_fw (zs_meet tl ev M (zm_S M) (zm_R M) (M 21)) n q t sn (sn - k) (zm_hold (zs_meet tl ev M (zm_S M) (zm_R M) (M 21)) n q t sn p k)) (zm_hold (zs_meet tl ev M (zm_S M) (zm_R M) (M 21)) n q t sn p k) (t + k)) 0 n 0 = zm_hold (zs_meet tl ev M (zm_S M) (zm_R M) (M 21)) n q t sn p (k + 1) := rfl
                  have hl : lv_has ls 11 [(6, .int (nI (zm_hold (zs_meet tl ev M (zm_S M) (zm_R M) (M 21)) n q t sn p (k + 1)))), (0, .ref (b 100)), (1, .int (nI p)), (2, .int (nI q)), (3, .int (nI t)), (4, .int (nI bh)), (5, .int (nI sn)), (7, .int (nI k))] := by rw [← e_2]; exact hl
                  refine lv_iinc (v := nI (k + 1)) (lv' := [(7, .int (nI (k + 1))), (6, .int (nI (zm_hold (zs_meet tl ev M (zm_S M) (zm_R M) (M 21)) n q t sn p (k + 1)))), (0, .ref (b 100)), (1, .int (nI p)), (2, .int (nI q)), (3, .int (nI t)), (4, .int (nI bh)), (5, .int (nI sn))]) Z.1 Z.2.1 dX8_wayTo_222 hl (k := 7) rfl (zk_inc k 1) (by decide) rfl (fun ls hl => ?_)
                  refine lv_goto (tgt := 204) Z.1 Z.2.1 dX8_wayTo_225 (by decide) ?_
                  exact ih204 (k + 1) (by omega) (by omega) _ _ _ G (lv_sub hl [2, 3, 4, 5, 6, 7, 1, 0] rfl)
              exact L204 _ 0 (Nat.lt_succ_self _) (by omega) _ _ _ G (lv_sub hl [2, 3, 4, 5, 6, 7, 1, 0] rfl)
            have c59 : ¬ kk < 0 := c59
            obtain ⟨v, hv, rfl⟩ := zm_dn_f hkk (by omega) c59
            refine lv_iconst (v := nI 0) Z.1 Z.2.1 dX8_wayTo_62 (by decide +kernel) ?_
            refine lv_istore (lv' := [(7, .int (nI 0)), (0, .ref (b 100)), (1, .int (nI p)), (2, .int (nI q)), (3, .int (nI t)), (4, .int (nI bh)), (5, .int (nI sn)), (6, .int (nI v))]) Z.1 Z.2.1 dX8_wayTo_63 hl (by decide) rfl (fun ls hl => ?_)
            have L65 : ∀ (nN : Nat) (w : Nat) (FW1 : Nat → Nat), n - w < nN → (w ≤ n) → ((∀ d9, d9 ≤ d → ∀ w9, w9 < n → FW1 (7 * (sn - d9) + w9) = zm_fw (zs_meet tl ev M (zm_S M) (zm_R M) (M 21)) n q t sn d9 w9)) → (∀ w9, w9 < w → FW1 (7 * v + w9) = zm_fw (zs_meet tl ev M (zm_S M) (zm_R M) (M 21)) n q t sn (d + 1) w9) → ∀ (H : Heap) (locs : List Loc) (ls : Array Slot), zk_G D aA [(b 100, .inr (8, [.ref (b 0), .ref (b 1), .ref (b 2), .ref (b 3), .int (m 4), .int (m 5), .int (nI n), .int (m 7), .ref (b 8), .int (m 9), .ref (b 10), .int (m 11), .int (m 12), .int (m 13), .int (m 14), .int (m 15), .int (m 16), .ref (b 17), .ref (b 18), .ref (b 19), .ref (b 20), .ref (b 21), .ref (b 22), .ref (b 23), .ref (b 24), .int (m 25), .int (m 26), .int (m 27), .int (m 28), .ref (b 29), .ref (b 30), .int (m 31), .int (m 32), .int (m 33), .int (m 34), .int (m 35), .ref (b 36), .ref (b 37), .int (m 38), .ref (b 39), .ref (b 40), .int (m 41), .int (m 42), .int (m 43), .ref (b 44), .ref (b 45), .ref (b 46), .ref (b 47)])), (b 18, .inl (g 3, 6468, .inl SN)), (b 19, .inl (g 0, 49, .inl (fun i => nI (PR i)))), (b 20, .inl (g 0, 4207, .inl (fun i => nI (ST i)))), (b 22, .inl (g 0, 4207, .inl (fun i => nI (FW1 i))))] sS H locs → lv_has ls 11 [(0, .ref (b 100)), (1, .int (nI p)), (2, .int (nI q)), (3, .int (nI t)), (4, .int (nI bh)), (5, .int (nI sn)), (6, .int (nI v)), (7, .int (nI w))] → W pP l eE rm_X8_wayTo sS mM args below meth cC H locs 0 0 qQ (F0 mM 65 ls []) := by
              intro nN
              induction nN with
              | zero => intros; omega
              | succ nN ih65 =>
                intro w FW1 hμ h2 ha2 hc H locs ls G hl
                have hsr : ∀ w9, w9 < n → FW1 (7 * (v + 1) + w9) = zm_fw (zs_meet tl ev M (zm_S M) (zm_R M) (M 21)) n q t sn d w9 := fun w9 h9 => by have e := ha2 d (Nat.le_refl d) w9 h9; rw [show sn - d = v + 1 by omega] at e; exact e
                have q1 := zm_fw_le (zs_meet tl ev M (zm_S M) (zm_R M) (M 21)) n q t sn d w
                refine lv_iload Z.1 Z.2.1 dX8_wayTo_65 (lv_at hl 7 rfl) ?_
                refine lv_aload_n Z.1 Z.2.1 dX8_wayTo_67 rfl (lv_at hl 0 rfl) ?_
                refine zk_get (C := RX8) (T := TX8) (N := 48) (ci := 8) Z hK G hinX8 0 rfl rfl 6 (by decide) (List.mem_cons_of_mem _ wa8_40) rfl (v := .int (nI n)) rfl dX8_wayTo_68 ?_
                refine lv_icmp_ge (tgt := 192) Z.1 Z.2.1 dX8_wayTo_71 (by decide) (fun c71 => ?_) (fun c71 => ?_)
                · have c71 : n ≤ w := zk_le (by omega) (by omega) c71
                  refine lv_iinc (v := nI v - 1) (lv' := [(6, .int (nI v - 1)), (0, .ref (b 100)), (1, .int (nI p)), (2, .int (nI q)), (3, .int (nI t)), (4, .int (nI bh)), (5, .int (nI sn)), (7, .int (nI w))]) Z.1 Z.2.1 dX8_wayTo_192 hl (k := 6) rfl (zm_dec _) (by decide) rfl (fun ls hl => ?_)
                  refine lv_goto (tgt := 57) Z.1 Z.2.1 dX8_wayTo_195 (by decide) ?_
                  exact ih57 (nI v - 1) (d + 1) FW1 (by omega) (by rw [show sn - (d + 1) = v by omega]) (by omega) (by intro d9 h9 w9 h8; rcases (show d9 ≤ d ∨ d9 = d + 1 by omega) with h7 | rfl; exact ha2 d9 h7 w9 h8; rw [show sn - (d + 1) = v by omega]; exact hc w9 (by omega)) _ _ _ G (lv_sub hl [1, 2, 3, 4, 5, 6, 0] rfl)
                have c71 : w < n := zk_nle (by omega) (by omega) c71
                refine lv_aload_n Z.1 Z.2.1 dX8_wayTo_74 rfl (lv_at hl 0 rfl) ?_
                refine zk_get (C := RX8) (T := TX8) (N := 48) (ci := 8) Z hK G hinX8 0 rfl rfl 22 (by decide) (List.mem_cons_of_mem _ wa8_19) rfl (v := .ref (b 22)) rfl dX8_wayTo_75 ?_
                refine lv_bipush (v := nI 7) Z.1 Z.2.1 dX8_wayTo_78 (by decide +kernel) ?_
                refine lv_iload Z.1 Z.2.1 dX8_wayTo_80 (lv_at hl 6 rfl) ?_
                refine lv_iconst (v := nI 1) Z.1 Z.2.1 dX8_wayTo_82 (by decide +kernel) ?_
                refine zk_iadd Z dX8_wayTo_83 (z := nI (v + 1)) (nI_add _ _) ?_
                refine zk_imul Z dX8_wayTo_84 (z := nI (7 * (v + 1))) (pk_mul _ _) ?_
                refine lv_iload Z.1 Z.2.1 dX8_wayTo_85 (lv_at hl 7 rfl) ?_
                refine zk_iadd Z dX8_wayTo_87 (z := nI (7 * (v + 1) + w)) (nI_add _ _) ?_
                refine zk_iald Z hK G 4 rfl (k := 7 * (v + 1) + w) (by omega) (by decide) (v := nI (zm_fw (zs_meet tl ev M (zm_S M) (zm_R M) (M 21)) n q t sn d w)) (congrArg nI (hsr w (by omega))) dX8_wayTo_88 ?_
                refine lv_istore (lv' := [(8, .int (nI (zm_fw (zs_meet tl ev M (zm_S M) (zm_R M) (M 21)) n q t sn d w))), (0, .ref (b 100)), (1, .int (nI p)), (2, .int (nI q)), (3, .int (nI t)), (4, .int (nI bh)), (5, .int (nI sn)), (6, .int (nI v)), (7, .int (nI w))]) Z.1 Z.2.1 dX8_wayTo_89 hl (by decide) rfl (fun ls hl => ?_)
                have e_3 : zm_fw (zs_meet tl ev M (zm_S M) (zm_R M) (M 21)) n q t sn d w = zm_fo (fun o9 => decide (o9 ≠ w) && (zs_meet tl ev M (zm_S M) (zm_R M) (M 21)) w o9 (t + (sn - 1 - d))) (zm_fw (zs_meet tl ev M (zm_S M) (zm_R M) (M 21)) n q t sn d) (zm_fw (zs_meet tl ev M (zm_S M) (zm_R M) (M 21)) n q t sn d w) 0 := rfl
                have hl : lv_has ls 11 [(8, .int (nI (zm_fo (fun o9 => decide (o9 ≠ w) && (zs_meet tl ev M (zm_S M) (zm_R M) (M 21)) w o9 (t + (sn - 1 - d))) (zm_fw (zs_meet tl ev M (zm_S M) (zm_R M) (M 21)) n q t sn d) (zm_fw (zs_meet tl ev M (zm_S M) (zm_R M) (M 21)) n q t sn d w) 0))), (0, .ref (b 100)), (1, .int (nI p)), (2, .int (nI q)), (3, .int (nI t)), (4, .int (nI bh)), (5, .int (nI sn)), (6, .int (nI v)), (7, .int (nI w))] := by rw [← e_3]; exact hl
                refine lv_iconst (v := nI 0) Z.1 Z.2.1 dX8_wayTo_91 (by decide +kernel) ?_
                refine lv_istore (lv' := [(9, .int (nI 0)), (8, .int (nI (zm_fo (fun o9 => decide (o9 ≠ w) && (zs_meet tl ev M (zm_S M) (zm_R M) (M 21)) w o9 (t + (sn - 1 - d))) (zm_fw (zs_meet tl ev M (zm_S M) (zm_R M) (M 21)) n q t sn d) (zm_fw (zs_meet tl ev M (zm_S M) (zm_R M) (M 21)) n q t sn d w) 0))), (0, .ref (b 100)), (1, .int (nI p)), (2, .int (nI q)), (3, .int (nI t)), (4, .int (nI bh)), (5, .int (nI sn)), (6, .int (nI v)), (7, .int (nI w))]) Z.1 Z.2.1 dX8_wayTo_92 hl (by decide) rfl (fun ls hl => ?_)
                have L94 : ∀ (nN : Nat) (o : Nat), n - o < nN → (o ≤ n) → ∀ (H : Heap) (locs : List Loc) (ls : Array Slot), zk_G D aA [(b 100, .inr (8, [.ref (b 0), .ref (b 1), .ref (b 2), .ref (b 3), .int (m 4), .int (m 5), .int (nI n), .int (m 7), .ref (b 8), .int (m 9), .ref (b 10), .int (m 11), .int (m 12), .int (m 13), .int (m 14), .int (m 15), .int (m 16), .ref (b 17), .ref (b 18), .ref (b 19), .ref (b 20), .ref (b 21), .ref (b 22), .ref (b 23), .ref (b 24), .int (m 25), .int (m 26), .int (m 27), .int (m 28), .ref (b 29), .ref (b 30), .int (m 31), .int (m 32), .int (m 33), .int (m 34), .int (m 35), .ref (b 36), .ref (b 37), .int (m 38), .ref (b 39), .ref (b 40), .int (m 41), .int (m 42), .int (m 43), .ref (b 44), .ref (b 45), .ref (b 46), .ref (b 47)])), (b 18, .inl (g 3, 6468, .inl SN)), (b 19, .inl (g 0, 49, .inl (fun i => nI (PR i)))), (b 20, .inl (g 0, 4207, .inl (fun i => nI (ST i)))), (b 22, .inl (g 0, 4207, .inl (fun i => nI (FW1 i))))] sS H locs → lv_has ls 11 [(0, .ref (b 100)), (1, .int (nI p)), (2, .int (nI q)), (3, .int (nI t)), (4, .int (nI bh)), (5, .int (nI sn)), (6, .int (nI v)), (7, .int (nI w)), (8, .int (nI (zm_fo (fun o9 => decide (o9 ≠ w) && (zs_meet tl ev M (zm_S M) (zm_R M) (M 21)) w o9 (t + (sn - 1 - d))) (zm_fw (zs_meet tl ev M (zm_S M) (zm_R M) (M 21)) n q t sn d) (zm_fw (zs_meet tl ev M (zm_S M) (zm_R M) (M 21)) n q t sn d w) o))), (9, .int (nI o))] → W pP l eE rm_X8_wayTo sS mM args below meth cC H locs 0 0 qQ (F0 mM 94 ls []) := by
                  intro nN
                  induction nN with
                  | zero => intros; omega
                  | succ nN ih94 =>
                    intro o hμ h3 H locs ls G hl
                    have p1 := zm_fw_le (zs_meet tl ev M (zm_S M) (zm_R M) (M 21)) n q t sn d o
                    have r1 := zm_fo_le (fun o9 => decide (o9 ≠ w) && (zs_meet tl ev M (zm_S M) (zm_R M) (M 21)) w o9 (t + (sn - 1 - d))) (zm_fw (zs_meet tl ev M (zm_S M) (zm_R M) (M 21)) n q t sn d) (zm_fw (zs_meet tl ev M (zm_S M) (zm_R M) (M 21)) n q t sn d w) o
                    refine lv_iload Z.1 Z.2.1 dX8_wayTo_94 (lv_at hl 9 rfl) ?_
                    refine lv_aload_n Z.1 Z.2.1 dX8_wayTo_96 rfl (lv_at hl 0 rfl) ?_
                    refine zk_get (C := RX8) (T := TX8) (N := 48) (ci := 8) Z hK G hinX8 0 rfl rfl 6 (by decide) (List.mem_cons_of_mem _ wa8_40) rfl (v := .int (nI n)) rfl dX8_wayTo_97 ?_
                    refine lv_icmp_ge (tgt := 171) Z.1 Z.2.1 dX8_wayTo_100 (by decide) (fun c100 => ?_) (fun c100 => ?_)
                    · have c100 : n ≤ o := zk_le (by omega) (by omega) c100
                      have e_4 : zm_fo (fun o9 => decide (o9 ≠ w) && (zs_meet tl ev M (zm_S M) (zm_R M) (M 21)) w o9 (t + (sn - 1 - d))) (zm_fw (zs_meet tl ev M (zm_S M) (zm_R M) (M 21)) n q t sn d) (zm_fw (zs_meet tl ev M (zm_S M) (zm_R M) (M 21)) n q t sn d w) o = zm_fw (zs_meet tl ev M (zm_S M) (zm_R M) (M 21)) n q t sn (d + 1) w := (by rw [show o = n by omega]; rfl)
                      have hl : lv_has ls 11 [(0, .ref (b 100)), (1, .int (nI p)), (2, .int (nI q)), (3, .int (nI t)), (4, .int (nI bh)), (5, .int (nI sn)), (6, .int (nI v)), (7, .int (nI w)), (8, .int (nI (zm_fw (zs_meet tl ev M (zm_S M) (zm_R M) (M 21)) n q t sn (d + 1) w))), (9, .int (nI o))] := by rw [← e_4]; exact hl
                      refine lv_aload_n Z.1 Z.2.1 dX8_wayTo_171 rfl (lv_at hl 0 rfl) ?_
                      refine zk_get (C := RX8) (T := TX8) (N := 48) (ci := 8) Z hK G hinX8 0 rfl rfl 22 (by decide) (List.mem_cons_of_mem _ wa8_19) rfl (v := .ref (b 22)) rfl dX8_wayTo_172 ?_
                      refine lv_bipush (v := nI 7) Z.1 Z.2.1 dX8_wayTo_175 (by decide +kernel) ?_
                      refine lv_iload Z.1 Z.2.1 dX8_wayTo_177 (lv_at hl 6 rfl) ?_
                      refine zk_imul Z dX8_wayTo_179 (z := nI (7 * v)) (pk_mul _ _) ?_
                      refine lv_iload Z.1 Z.2.1 dX8_wayTo_180 (lv_at hl 7 rfl) ?_
                      refine zk_iadd Z dX8_wayTo_182 (z := nI (7 * v + w)) (nI_add _ _) ?_
                      refine lv_iload Z.1 Z.2.1 dX8_wayTo_183 (lv_at hl 8 rfl) ?_
                      refine zk_iast Z hK G 4 rfl (k := 7 * v + w) (by omega) (by decide) (zs_up_n _ _ _) (ws' := [(b 100, .inr (8, [.ref (b 0), .ref (b 1), .ref (b 2), .ref (b 3), .int (m 4), .int (m 5), .int (nI n), .int (m 7), .ref (b 8), .int (m 9), .ref (b 10), .int (m 11), .int (m 12), .int (m 13), .int (m 14), .int (m 15), .int (m 16), .ref (b 17), .ref (b 18), .ref (b 19), .ref (b 20), .ref (b 21), .ref (b 22), .ref (b 23), .ref (b 24), .int (m 25), .int (m 26), .int (m 27), .int (m 28), .ref (b 29), .ref (b 30), .int (m 31), .int (m 32), .int (m 33), .int (m 34), .int (m 35), .ref (b 36), .ref (b 37), .int (m 38), .ref (b 39), .ref (b 40), .int (m 41), .int (m 42), .int (m 43), .ref (b 44), .ref (b 45), .ref (b 46), .ref (b 47)])), (b 18, .inl (g 3, 6468, .inl SN)), (b 19, .inl (g 0, 49, .inl (fun i => nI (PR i)))), (b 20, .inl (g 0, 4207, .inl (fun i => nI (ST i)))), (b 22, .inl (g 0, 4207, .inl (fun i => nI (zs_up FW1 (7 * v + w) (zm_fw (zs_meet tl ev M (zm_S M) (zm_R M) (M 21)) n q t sn (d + 1) w) i))))]) rfl dX8_wayTo_185 (fun H locs G => ?_)
                      refine lv_iinc (v := nI (w + 1)) (lv' := [(7, .int (nI (w + 1))), (0, .ref (b 100)), (1, .int (nI p)), (2, .int (nI q)), (3, .int (nI t)), (4, .int (nI bh)), (5, .int (nI sn)), (6, .int (nI v)), (8, .int (nI (zm_fw (zs_meet tl ev M (zm_S M) (zm_R M) (M 21)) n q t sn (d + 1) w))), (9, .int (nI o))]) Z.1 Z.2.1 dX8_wayTo_186 hl (k := 7) rfl (zk_inc w 1) (by decide) rfl (fun ls hl => ?_)
                      refine lv_goto (tgt := 65) Z.1 Z.2.1 dX8_wayTo_189 (by decide) ?_
                      exact ih65 (w + 1) (zs_up FW1 (7 * v + w) (zm_fw (zs_meet tl ev M (zm_S M) (zm_R M) (M 21)) n q t sn (d + 1) w)) (by omega) (by omega) (by intro d9 h9 w9 h8; simp only [zs_up]; rw [if_neg (by omega)]; exact ha2 d9 h9 w9 h8) (by intro w9 h9; simp only [zs_up]; by_cases e9 : w9 = w; subst e9; rw [if_pos rfl]; rw [if_neg (by omega)]; exact hc w9 (by omega)) _ _ _ G (lv_sub hl [1, 2, 3, 4, 5, 6, 7, 0] rfl)
                    have c100 : o < n := zk_nle (by omega) (by omega) c100
                    refine lv_iload Z.1 Z.2.1 dX8_wayTo_103 (lv_at hl 9 rfl) ?_
                    refine lv_iload Z.1 Z.2.1 dX8_wayTo_105 (lv_at hl 7 rfl) ?_
                    refine lv_icmp_eq (tgt := 145) Z.1 Z.2.1 dX8_wayTo_107 (by decide) (fun c107 => ?_) (fun c107 => ?_)
                    · have c107 : o = w := zk_eq (by omega) (by omega) c107
                      refine lv_ldc (v := nI 1000000) Z.1 Z.2.1 Z.2.2.2.1 (Z.2.2.2.2 _ (List.mem_cons_of_mem _ wa8_187)) dX8_wayTo_145 ?_
                      refine lv_istore (lv' := [(10, .int (nI 1000000)), (0, .ref (b 100)), (1, .int (nI p)), (2, .int (nI q)), (3, .int (nI t)), (4, .int (nI bh)), (5, .int (nI sn)), (6, .int (nI v)), (7, .int (nI w)), (8, .int (nI (zm_fo (fun o9 => decide (o9 ≠ w) && (zs_meet tl ev M (zm_S M) (zm_R M) (M 21)) w o9 (t + (sn - 1 - d))) (zm_fw (zs_meet tl ev M (zm_S M) (zm_R M) (M 21)) n q t sn d) (zm_fw (zs_meet tl ev M (zm_S M) (zm_R M) (M 21)) n q t sn d w) o))), (9, .int (nI o))]) Z.1 Z.2.1 dX8_wayTo_147 hl (by decide) rfl (fun ls hl => ?_)
                      refine lv_iload Z.1 Z.2.1 dX8_wayTo_149 (lv_at hl 0 rfl) ?_
                      refine lv_iload Z.1 Z.2.1 dX8_wayTo_151 (lv_at hl 9 rfl) ?_
                      refine lv_icmp_ge (tgt := 161) Z.1 Z.2.1 dX8_wayTo_153 (by decide) (fun c153 => ?_) (fun c153 => ?_)
                      · have c153 : zm_fo (fun o9 => decide (o9 ≠ w) && (zs_meet tl ev M (zm_S M) (zm_R M) (M 21)) w o9 (t + (sn - 1 - d))) (zm_fw (zs_meet tl ev M (zm_S M) (zm_R M) (M 21)) n q t sn d) (zm_fw (zs_meet tl ev M (zm_S M) (zm_R M) (M 21)) n q t sn d w) o ≤ 1000000 := zk_le (by omega) (by omega) c153
                        refine lv_iload Z.1 Z.2.1 dX8_wayTo_161 (lv_at hl 9 rfl) ?_
                        refine lv_istore (lv' := [(8, .int (nI (zm_fo (fun o9 => decide (o9 ≠ w) && (zs_meet tl ev M (zm_S M) (zm_R M) (M 21)) w o9 (t + (sn - 1 - d))) (zm_fw (zs_meet tl ev M (zm_S M) (zm_R M) (M 21)) n q t sn d) (zm_fw (zs_meet tl ev M (zm_S M) (zm_R M) (M 21)) n q t sn d w) o))), (10, .int (nI 1000000)), (0, .ref (b 100)), (1, .int (nI p)), (2, .int (nI q)), (3, .int (nI t)), (4, .int (nI bh)), (5, .int (nI sn)), (6, .int (nI v)), (7, .int (nI w)), (9, .int (nI o))]) Z.1 Z.2.1 dX8_wayTo_163 hl (by decide) rfl (fun ls hl => ?_)
                        have hco : (fun o9 => decide (o9 ≠ w) && (zs_meet tl ev M (zm_S M) (zm_R M) (M 21)) w o9 (t + (sn - 1 - d))) o = false := by show (decide (o ≠ w) && (zs_meet tl ev M (zm_S M) (zm_R M) (M 21)) w o (t + (sn - 1 - d))) = false; rw [decide_eq_false (not_not_intro c107)]; rfl
                        have e_5 : zm_fo (fun o9 => decide (o9 ≠ w) && (zs_meet tl ev M (zm_S M) (zm_R M) (M 21)) w o9 (t + (sn - 1 - d))) (zm_fw (zs_meet tl ev M (zm_S M) (zm_R M) (M 21)) n q t sn d) (zm_fw (zs_meet tl ev M (zm_S M) (zm_R M) (M 21)) n q t sn d w) o = zm_fo (fun o9 => decide (o9 ≠ w) && (zs_meet tl ev M (zm_S M) (zm_R M) (M 21)) w o9 (t + (sn - 1 - d))) (zm_fw (zs_meet tl ev M (zm_S M) (zm_R M) (M 21)) n q t sn d) (zm_fw (zs_meet tl ev M (zm_S M) (zm_R M) (M 21)) n q t sn d w) (o + 1) := (zm_fo_n hco).symm
                        have hl : lv_has ls 11 [(8, .int (nI (zm_fo (fun o9 => decide (o9 ≠ w) && (zs_meet tl ev M (zm_S M) (zm_R M) (M 21)) w o9 (t + (sn - 1 - d))) (zm_fw (zs_meet tl ev M (zm_S M) (zm_R M) (M 21)) n q t sn d) (zm_fw (zs_meet tl ev M (zm_S M) (zm_R M) (M 21)) n q t sn d w) (o + 1)))), (10, .int (nI 1000000)), (0, .ref (b 100)), (1, .int (nI p)), (2, .int (nI q)), (3, .int (nI t)), (4, .int (nI bh)), (5, .int (nI sn)), (6, .int (nI v)), (7, .int (nI w)), (9, .int (nI o))] := by rw [← e_5]; exact hl
                        refine lv_iinc (v := nI (o + 1)) (lv' := [(9, .int (nI (o + 1))), (8, .int (nI (zm_fo (fun o9 => decide (o9 ≠ w) && (zs_meet tl ev M (zm_S M) (zm_R M) (M 21)) w o9 (t + (sn - 1 - d))) (zm_fw (zs_meet tl ev M (zm_S M) (zm_R M) (M 21)) n q t sn d) (zm_fw (zs_meet tl ev M (zm_S M) (zm_R M) (M 21)) n q t sn d w) (o + 1)))), (10, .int (nI 1000000)), (0, .ref (b 100)), (1, .int (nI p)), (2, .int (nI q)), (3, .int (nI t)), (4, .int (nI bh)), (5, .int (nI sn)), (6, .int (nI v)), (7, .int (nI w))]) Z.1 Z.2.1 dX8_wayTo_165 hl (k := 10) rfl (zk_inc o 1) (by decide) rfl (fun ls hl => ?_)
                        refine lv_goto (tgt := 94) Z.1 Z.2.1 dX8_wayTo_168 (by decide) ?_
                        exact ih94 (o + 1) (by omega) (by omega) _ _ _ G (lv_sub hl [3, 4, 5, 6, 7, 8, 9, 10, 1, 0] rfl)
                      exfalso
                      have c153 : 1000000 < zm_fo (fun o9 => decide (o9 ≠ w) && (zs_meet tl ev M (zm_S M) (zm_R M) (M 21)) w o9 (t + (sn - 1 - d))) (zm_fw (zs_meet tl ev M (zm_S M) (zm_R M) (M 21)) n q t sn d) (zm_fw (zs_meet tl ev M (zm_S M) (zm_R M) (M 21)) n q t sn d w) o := zk_nle (by omega) (by omega) c153
                      omega
                    have c107 : o ≠ w := zk_neq (by omega) (by omega) c107
                    refine lv_aload_n Z.1 Z.2.1 dX8_wayTo_110 rfl (lv_at hl 0 rfl) ?_
                    refine lv_iload Z.1 Z.2.1 dX8_wayTo_111 (lv_at hl 7 rfl) ?_
                    refine lv_iload Z.1 Z.2.1 dX8_wayTo_113 (lv_at hl 9 rfl) ?_
                    refine lv_iload_n Z.1 Z.2.1 dX8_wayTo_115 rfl (lv_at hl 3 rfl) ?_
                    refine lv_iload Z.1 Z.2.1 dX8_wayTo_116 (lv_at hl 6 rfl) ?_
                    refine zk_iadd Z dX8_wayTo_118 (z := nI (t + v)) (nI_add _ _) ?_
                    refine zk_ci (WF := fun (_ : Unit) => [(b 100, .inr (8, [.ref (b 0), .ref (b 1), .ref (b 2), .ref (b 3), .int (m 4), .int (m 5), .int (nI n), .int (m 7), .ref (b 8), .int (m 9), .ref (b 10), .int (m 11), .int (m 12), .int (m 13), .int (m 14), .int (m 15), .int (m 16), .ref (b 17), .ref (b 18), .ref (b 19), .ref (b 20), .ref (b 21), .ref (b 22), .ref (b 23), .ref (b 24), .int (m 25), .int (m 26), .int (m 27), .int (m 28), .ref (b 29), .ref (b 30), .int (m 31), .int (m 32), .int (m 33), .int (m 34), .int (m 35), .ref (b 36), .ref (b 37), .int (m 38), .ref (b 39), .ref (b 40), .int (m 41), .int (m 42), .int (m 43), .ref (b 44), .ref (b 45), .ref (b 46), .ref (b 47)])), (b 18, .inl (g 3, 6468, .inl SN)), (b 19, .inl (g 0, 49, .inl (fun i => nI (PR i)))), (b 20, .inl (g 0, 4207, .inl (fun i => nI (ST i)))), (b 22, .inl (g 0, 4207, .inl (fun i => nI (FW1 i))))]) (wr := [(b 20, .inl (g 0, 4207, .inl (fun i => nI (ST i)))), (b 22, .inl (g 0, 4207, .inl (fun i => nI (FW1 i))))]) ⟨rfl, rfl⟩ (zk_rv (As := [.int (nI w), .int (nI o), .int (nI (t + v))]) (rest := []) (q0 := 0) (ci := 8) Z ((ct_X8_sawAt l D g τ b (upd m 6 (nI n)) tl ev n M SN PR w o (t + v) (by exact hW) (by exact hok) (by omega) (by omega) (by omega) (by omega)) H.size) hK hT hA G [0, 1, 2] rfl (by decide) rfl rfl gmX8_wayTo_X8_sawAt rfl dvX8_sawAt ⟨by decide, by decide⟩ rfl hl.1 rfl (Nat.le_of_ble_eq_true rfl) dX8_wayTo_119 ⟨Nat.zero_le _, Nat.zero_le _⟩) hA G [0, 1, 2] [3, 4] [2, 3, 4, 0, 1] rfl rfl (by decide) (by decide) (by decide) (fun _ => rfl) (fun r_119 _ H locs w_119 G => ?_)
                    obtain rfl : r_119 = zk_b (zs_meet tl ev M (zm_S M) (zm_R M) (M 21) w o (t + v)) := w_119
                    refine lv_if_eq (tgt := 145) Z.1 Z.2.1 dX8_wayTo_122 (by decide) (fun c122 => ?_) (fun c122 => ?_)
                    · have c122 : (zs_meet tl ev M (zm_S M) (zm_R M) (M 21) w o (t + v)) = false := zk_b0.mp c122
                      refine lv_ldc (v := nI 1000000) Z.1 Z.2.1 Z.2.2.2.1 (Z.2.2.2.2 _ (List.mem_cons_of_mem _ wa8_187)) dX8_wayTo_145 ?_
                      refine lv_istore (lv' := [(10, .int (nI 1000000)), (0, .ref (b 100)), (1, .int (nI p)), (2, .int (nI q)), (3, .int (nI t)), (4, .int (nI bh)), (5, .int (nI sn)), (6, .int (nI v)), (7, .int (nI w)), (8, .int (nI (zm_fo (fun o9 => decide (o9 ≠ w) && (zs_meet tl ev M (zm_S M) (zm_R M) (M 21)) w o9 (t + (sn - 1 - d))) (zm_fw (zs_meet tl ev M (zm_S M) (zm_R M) (M 21)) n q t sn d) (zm_fw (zs_meet tl ev M (zm_S M) (zm_R M) (M 21)) n q t sn d w) o))), (9, .int (nI o))]) Z.1 Z.2.1 dX8_wayTo_147 hl (by decide) rfl (fun ls hl => ?_)
                      refine lv_iload Z.1 Z.2.1 dX8_wayTo_149 (lv_at hl 0 rfl) ?_
                      refine lv_iload Z.1 Z.2.1 dX8_wayTo_151 (lv_at hl 9 rfl) ?_
                      refine lv_icmp_ge (tgt := 161) Z.1 Z.2.1 dX8_wayTo_153 (by decide) (fun c153 => ?_) (fun c153 => ?_)
                      · have c153 : zm_fo (fun o9 => decide (o9 ≠ w) && (zs_meet tl ev M (zm_S M) (zm_R M) (M 21)) w o9 (t + (sn - 1 - d))) (zm_fw (zs_meet tl ev M (zm_S M) (zm_R M) (M 21)) n q t sn d) (zm_fw (zs_meet tl ev M (zm_S M) (zm_R M) (M 21)) n q t sn d w) o ≤ 1000000 := zk_le (by omega) (by omega) c153
                        refine lv_iload Z.1 Z.2.1 dX8_wayTo_161 (lv_at hl 9 rfl) ?_
                        refine lv_istore (lv' := [(8, .int (nI (zm_fo (fun o9 => decide (o9 ≠ w) && (zs_meet tl ev M (zm_S M) (zm_R M) (M 21)) w o9 (t + (sn - 1 - d))) (zm_fw (zs_meet tl ev M (zm_S M) (zm_R M) (M 21)) n q t sn d) (zm_fw (zs_meet tl ev M (zm_S M) (zm_R M) (M 21)) n q t sn d w) o))), (10, .int (nI 1000000)), (0, .ref (b 100)), (1, .int (nI p)), (2, .int (nI q)), (3, .int (nI t)), (4, .int (nI bh)), (5, .int (nI sn)), (6, .int (nI v)), (7, .int (nI w)), (9, .int (nI o))]) Z.1 Z.2.1 dX8_wayTo_163 hl (by decide) rfl (fun ls hl => ?_)
                        have hco : (fun o9 => decide (o9 ≠ w) && (zs_meet tl ev M (zm_S M) (zm_R M) (M 21)) w o9 (t + (sn - 1 - d))) o = false := by show (decide (o ≠ w) && (zs_meet tl ev M (zm_S M) (zm_R M) (M 21)) w o (t + (sn - 1 - d))) = false; rw [show sn - 1 - d = v by omega, c122]; exact Bool.and_false _
                        have e_6 : zm_fo (fun o9 => decide (o9 ≠ w) && (zs_meet tl ev M (zm_S M) (zm_R M) (M 21)) w o9 (t + (sn - 1 - d))) (zm_fw (zs_meet tl ev M (zm_S M) (zm_R M) (M 21)) n q t sn d) (zm_fw (zs_meet tl ev M (zm_S M) (zm_R M) (M 21)) n q t sn d w) o = zm_fo (fun o9 => decide (o9 ≠ w) && (zs_meet tl ev M (zm_S M) (zm_R M) (M 21)) w o9 (t + (sn - 1 - d))) (zm_fw (zs_meet tl ev M (zm_S M) (zm_R M) (M 21)) n q t sn d) (zm_fw (zs_meet tl ev M (zm_S M) (zm_R M) (M 21)) n q t sn d w) (o + 1) := (zm_fo_n hco).symm
                        have hl : lv_has ls 11 [(8, .int (nI (zm_fo (fun o9 => decide (o9 ≠ w) && (zs_meet tl ev M (zm_S M) (zm_R M) (M 21)) w o9 (t + (sn - 1 - d))) (zm_fw (zs_meet tl ev M (zm_S M) (zm_R M) (M 21)) n q t sn d) (zm_fw (zs_meet tl ev M (zm_S M) (zm_R M) (M 21)) n q t sn d w) (o + 1)))), (10, .int (nI 1000000)), (0, .ref (b 100)), (1, .int (nI p)), (2, .int (nI q)), (3, .int (nI t)), (4, .int (nI bh)), (5, .int (nI sn)), (6, .int (nI v)), (7, .int (nI w)), (9, .int (nI o))] := by rw [← e_6]; exact hl
                        refine lv_iinc (v := nI (o + 1)) (lv' := [(9, .int (nI (o + 1))), (8, .int (nI (zm_fo (fun o9 => decide (o9 ≠ w) && (zs_meet tl ev M (zm_S M) (zm_R M) (M 21)) w o9 (t + (sn - 1 - d))) (zm_fw (zs_meet tl ev M (zm_S M) (zm_R M) (M 21)) n q t sn d) (zm_fw (zs_meet tl ev M (zm_S M) (zm_R M) (M 21)) n q t sn d w) (o + 1)))), (10, .int (nI 1000000)), (0, .ref (b 100)), (1, .int (nI p)), (2, .int (nI q)), (3, .int (nI t)), (4, .int (nI bh)), (5, .int (nI sn)), (6, .int (nI v)), (7, .int (nI w))]) Z.1 Z.2.1 dX8_wayTo_165 hl (k := 10) rfl (zk_inc o 1) (by decide) rfl (fun ls hl => ?_)
                        refine lv_goto (tgt := 94) Z.1 Z.2.1 dX8_wayTo_168 (by decide) ?_
                        exact ih94 (o + 1) (by omega) (by omega) _ _ _ G (lv_sub hl [3, 4, 5, 6, 7, 8, 9, 10, 1, 0] rfl)
                      exfalso
                      have c153 : 1000000 < zm_fo (fun o9 => decide (o9 ≠ w) && (zs_meet tl ev M (zm_S M) (zm_R M) (M 21)) w o9 (t + (sn - 1 - d))) (zm_fw (zs_meet tl ev M (zm_S M) (zm_R M) (M 21)) n q t sn d) (zm_fw (zs_meet tl ev M (zm_S M) (zm_R M) (M 21)) n q t sn d w) o := zk_nle (by omega) (by omega) c153
                      omega
                    have c122 : (zs_meet tl ev M (zm_S M) (zm_R M) (M 21) w o (t + v)) = true := zk_b1.mp c122
                    refine lv_aload_n Z.1 Z.2.1 dX8_wayTo_125 rfl (lv_at hl 0 rfl) ?_
                    refine zk_get (C := RX8) (T := TX8) (N := 48) (ci := 8) Z hK G hinX8 0 rfl rfl 22 (by decide) (List.mem_cons_of_mem _ wa8_19) rfl (v := .ref (b 22)) rfl dX8_wayTo_126 ?_
                    refine lv_bipush (v := nI 7) Z.1 Z.2.1 dX8_wayTo_129 (by decide +kernel) ?_
                    refine lv_iload Z.1 Z.2.1 dX8_wayTo_131 (lv_at hl 6 rfl) ?_
                    refine lv_iconst (v := nI 1) Z.1 Z.2.1 dX8_wayTo_133 (by decide +kernel) ?_
                    refine zk_iadd Z dX8_wayTo_134 (z := nI (v + 1)) (nI_add _ _) ?_
                    refine zk_imul Z dX8_wayTo_135 (z := nI (7 * (v + 1))) (pk_mul _ _) ?_
                    refine lv_iload Z.1 Z.2.1 dX8_wayTo_136 (lv_at hl 9 rfl) ?_
                    refine zk_iadd Z dX8_wayTo_138 (z := nI (7 * (v + 1) + o)) (nI_add _ _) ?_
                    refine zk_iald Z hK G 4 rfl (k := 7 * (v + 1) + o) (by omega) (by decide) (v := nI (zm_fw (zs_meet tl ev M (zm_S M) (zm_R M) (M 21)) n q t sn d o)) (congrArg nI (hsr o (by omega))) dX8_wayTo_139 ?_
                    refine lv_iconst (v := nI 1) Z.1 Z.2.1 dX8_wayTo_140 (by decide +kernel) ?_
                    refine zk_iadd Z dX8_wayTo_141 (z := nI (zm_fw (zs_meet tl ev M (zm_S M) (zm_R M) (M 21)) n q t sn d o + 1)) (nI_add _ _) ?_
                    refine lv_goto (tgt := 147) Z.1 Z.2.1 dX8_wayTo_142 (by decide) ?_
                    refine lv_istore (lv' := [(10, .int (nI (zm_fw (zs_meet tl ev M (zm_S M) (zm_R M) (M 21)) n q t sn d o + 1))), (0, .ref (b 100)), (1, .int (nI p)), (2, .int (nI q)), (3, .int (nI t)), (4, .int (nI bh)), (5, .int (nI sn)), (6, .int (nI v)), (7, .int (nI w)), (8, .int (nI (zm_fo (fun o9 => decide (o9 ≠ w) && (zs_meet tl ev M (zm_S M) (zm_R M) (M 21)) w o9 (t + (sn - 1 - d))) (zm_fw (zs_meet tl ev M (zm_S M) (zm_R M) (M 21)) n q t sn d) (zm_fw (zs_meet tl ev M (zm_S M) (zm_R M) (M 21)) n q t sn d w) o))), (9, .int (nI o))]) Z.1 Z.2.1 dX8_wayTo_147 hl (by decide) rfl (fun ls hl => ?_)
                    refine lv_iload Z.1 Z.2.1 dX8_wayTo_149 (lv_at hl 0 rfl) ?_
                    refine lv_iload Z.1 Z.2.1 dX8_wayTo_151 (lv_at hl 9 rfl) ?_
                    refine lv_icmp_ge (tgt := 161) Z.1 Z.2.1 dX8_wayTo_153 (by decide) (fun c153 => ?_) (fun c153 => ?_)
                    · have c153 : zm_fo (fun o9 => decide (o9 ≠ w) && (zs_meet tl ev M (zm_S M) (zm_R M) (M 21)) w o9 (t + (sn - 1 - d))) (zm_fw (zs_meet tl ev M (zm_S M) (zm_R M) (M 21)) n q t sn d) (zm_fw (zs_meet tl ev M (zm_S M) (zm_R M) (M 21)) n q t sn d w) o ≤ zm_fw (zs_meet tl ev M (zm_S M) (zm_R M) (M 21)) n q t sn d o + 1 := zk_le (by omega) (by omega) c153
                      refine lv_iload Z.1 Z.2.1 dX8_wayTo_161 (lv_at hl 9 rfl) ?_
                      refine lv_istore (lv' := [(8, .int (nI (zm_fo (fun o9 => decide (o9 ≠ w) && (zs_meet tl ev M (zm_S M) (zm_R M) (M 21)) w o9 (t + (sn - 1 - d))) (zm_fw (zs_meet tl ev M (zm_S M) (zm_R M) (M 21)) n q t sn d) (zm_fw (zs_meet tl ev M (zm_S M) (zm_R M) (M 21)) n q t sn d w) o))), (10, .int (nI (zm_fw (zs_meet tl ev M (zm_S M) (zm_R M) (M 21)) n q t sn d o + 1))), (0, .ref (b 100)), (1, .int (nI p)), (2, .int (nI q)), (3, .int (nI t)), (4, .int (nI bh)), (5, .int (nI sn)), (6, .int (nI v)), (7, .int (nI w)), (9, .int (nI o))]) Z.1 Z.2.1 dX8_wayTo_163 hl (by decide) rfl (fun ls hl => ?_)
                      have hco : (fun o9 => decide (o9 ≠ w) && (zs_meet tl ev M (zm_S M) (zm_R M) (M 21)) w o9 (t + (sn - 1 - d))) o = true := by show (decide (o ≠ w) && (zs_meet tl ev M (zm_S M) (zm_R M) (M 21)) w o (t + (sn - 1 - d))) = true; rw [show sn - 1 - d = v by omega, c122, decide_eq_true c107]; rfl
                      have e_7 : zm_fo (fun o9 => decide (o9 ≠ w) && (zs_meet tl ev M (zm_S M) (zm_R M) (M 21)) w o9 (t + (sn - 1 - d))) (zm_fw (zs_meet tl ev M (zm_S M) (zm_R M) (M 21)) n q t sn d) (zm_fw (zs_meet tl ev M (zm_S M) (zm_R M) (M 21)) n q t sn d w) o = zm_fo (fun o9 => decide (o9 ≠ w) && (zs_meet tl ev M (zm_S M) (zm_R M) (M 21)) w o9 (t + (sn - 1 - d))) (zm_fw (zs_meet tl ev M (zm_S M) (zm_R M) (M 21)) n q t sn d) (zm_fw (zs_meet tl ev M (zm_S M) (zm_R M) (M 21)) n q t sn d w) (o + 1) := (by rw [zm_fo_y hco]; omega)
                      have hl : lv_has ls 11 [(8, .int (nI (zm_fo (fun o9 => decide (o9 ≠ w) && (zs_meet tl ev M (zm_S M) (zm_R M) (M 21)) w o9 (t + (sn - 1 - d))) (zm_fw (zs_meet tl ev M (zm_S M) (zm_R M) (M 21)) n q t sn d) (zm_fw (zs_meet tl ev M (zm_S M) (zm_R M) (M 21)) n q t sn d w) (o + 1)))), (10, .int (nI (zm_fw (zs_meet tl ev M (zm_S M) (zm_R M) (M 21)) n q t sn d o + 1))), (0, .ref (b 100)), (1, .int (nI p)), (2, .int (nI q)), (3, .int (nI t)), (4, .int (nI bh)), (5, .int (nI sn)), (6, .int (nI v)), (7, .int (nI w)), (9, .int (nI o))] := by rw [← e_7]; exact hl
                      refine lv_iinc (v := nI (o + 1)) (lv' := [(9, .int (nI (o + 1))), (8, .int (nI (zm_fo (fun o9 => decide (o9 ≠ w) && (zs_meet tl ev M (zm_S M) (zm_R M) (M 21)) w o9 (t + (sn - 1 - d))) (zm_fw (zs_meet tl ev M (zm_S M) (zm_R M) (M 21)) n q t sn d) (zm_fw (zs_meet tl ev M (zm_S M) (zm_R M) (M 21)) n q t sn d w) (o + 1)))), (10, .int (nI (zm_fw (zs_meet tl ev M (zm_S M) (zm_R M) (M 21)) n q t sn d o + 1))), (0, .ref (b 100)), (1, .int (nI p)), (2, .int (nI q)), (3, .int (nI t)), (4, .int (nI bh)), (5, .int (nI sn)), (6, .int (nI v)), (7, .int (nI w))]) Z.1 Z.2.1 dX8_wayTo_165 hl (k := 10) rfl (zk_inc o 1) (by decide) rfl (fun ls hl => ?_)
                      refine lv_goto (tgt := 94) Z.1 Z.2.1 dX8_wayTo_168 (by decide) ?_
                      exact ih94 (o + 1) (by omega) (by omega) _ _ _ G (lv_sub hl [3, 4, 5, 6, 7, 8, 9, 10, 1, 0] rfl)
                    have c153 : zm_fw (zs_meet tl ev M (zm_S M) (zm_R M) (M 21)) n q t sn d o + 1 < zm_fo (fun o9 => decide (o9 ≠ w) && (zs_meet tl ev M (zm_S M) (zm_R M) (M 21)) w o9 (t + (sn - 1 - d))) (zm_fw (zs_meet tl ev M (zm_S M) (zm_R M) (M 21)) n q t sn d) (zm_fw (zs_meet tl ev M (zm_S M) (zm_R M) (M 21)) n q t sn d w) o := zk_nle (by omega) (by omega) c153
                    refine lv_iload Z.1 Z.2.1 dX8_wayTo_156 (lv_at hl 0 rfl) ?_
                    refine lv_goto (tgt := 163) Z.1 Z.2.1 dX8_wayTo_158 (by decide) ?_
                    refine lv_istore (lv' := [(8, .int (nI (zm_fw (zs_meet tl ev M (zm_S M) (zm_R M) (M 21)) n q t sn d o + 1))), (10, .int (nI (zm_fw (zs_meet tl ev M (zm_S M) (zm_R M) (M 21)) n q t sn d o + 1))), (0, .ref (b 100)), (1, .int (nI p)), (2, .int (nI q)), (3, .int (nI t)), (4, .int (nI bh)), (5, .int (nI sn)), (6, .int (nI v)), (7, .int (nI w)), (9, .int (nI o))]) Z.1 Z.2.1 dX8_wayTo_163 hl (by decide) rfl (fun ls hl => ?_)
                    have hco : (fun o9 => decide (o9 ≠ w) && (zs_meet tl ev M (zm_S M) (zm_R M) (M 21)) w o9 (t + (sn - 1 - d))) o = true := by show (decide (o ≠ w) && (zs_meet tl ev M (zm_S M) (zm_R M) (M 21)) w o (t + (sn - 1 - d))) = true; rw [show sn - 1 - d = v by omega, c122, decide_eq_true c107]; rfl
                    have e_8 : zm_fw (zs_meet tl ev M (zm_S M) (zm_R M) (M 21)) n q t sn d o + 1 = zm_fo (fun o9 => decide (o9 ≠ w) && (zs_meet tl ev M (zm_S M) (zm_R M) (M 21)) w o9 (t + (sn - 1 - d))) (zm_fw (zs_meet tl ev M (zm_S M) (zm_R M) (M 21)) n q t sn d) (zm_fw (zs_meet tl ev M (zm_S M) (zm_R M) (M 21)) n q t sn d w) (o + 1) := (by rw [zm_fo_y hco]; omega)
                    have hl : lv_has ls 11 [(8, .int (nI (zm_fo (fun o9 => decide (o9 ≠ w) && (zs_meet tl ev M (zm_S M) (zm_R M) (M 21)) w o9 (t + (sn - 1 - d))) (zm_fw (zs_meet tl ev M (zm_S M) (zm_R M) (M 21)) n q t sn d) (zm_fw (zs_meet tl ev M (zm_S M) (zm_R M) (M 21)) n q t sn d w) (o + 1)))), (10, .int (nI (zm_fw (zs_meet tl ev M (zm_S M) (zm_R M) (M 21)) n q t sn d o + 1))), (0, .ref (b 100)), (1, .int (nI p)), (2, .int (nI q)), (3, .int (nI t)), (4, .int (nI bh)), (5, .int (nI sn)), (6, .int (nI v)), (7, .int (nI w)), (9, .int (nI o))] := by rw [← e_8]; exact hl
                    refine lv_iinc (v := nI (o + 1)) (lv' := [(9, .int (nI (o + 1))), (8, .int (nI (zm_fo (fun o9 => decide (o9 ≠ w) && (zs_meet tl ev M (zm_S M) (zm_R M) (M 21)) w o9 (t + (sn - 1 - d))) (zm_fw (zs_meet tl ev M (zm_S M) (zm_R M) (M 21)) n q t sn d) (zm_fw (zs_meet tl ev M (zm_S M) (zm_R M) (M 21)) n q t sn d w) (o + 1)))), (10, .int (nI (zm_fw (zs_meet tl ev M (zm_S M) (zm_R M) (M 21)) n q t sn d o + 1))), (0, .ref (b 100)), (1, .int (nI p)), (2, .int (nI q)), (3, .int (nI t)), (4, .int (nI bh)), (5, .int (nI sn)), (6, .int (nI v)), (7, .int (nI w))]) Z.1 Z.2.1 dX8_wayTo_165 hl (k := 10) rfl (zk_inc o 1) (by decide) rfl (fun ls hl => ?_)
                    refine lv_goto (tgt := 94) Z.1 Z.2.1 dX8_wayTo_168 (by decide) ?_
                    exact ih94 (o + 1) (by omega) (by omega) _ _ _ G (lv_sub hl [3, 4, 5, 6, 7, 8, 9, 10, 1, 0] rfl)
                exact L94 _ 0 (Nat.lt_succ_self _) (by omega) _ _ _ G (lv_sub hl [2, 3, 4, 5, 6, 7, 8, 9, 1, 0] rfl)
            exact L65 _ 0 FW1 (Nat.lt_succ_self _) (by omega) (by exact ha) (by intro w9 h9; omega) _ _ _ G (lv_sub hl [1, 2, 3, 4, 5, 6, 7, 0] rfl)
        exact L57 _ (nI sn - 1) 0 FW1 (Nat.lt_succ_self _) (by rfl) (by omega) (by intro d9 h9 w9 h8; obtain rfl : d9 = 0 := (by omega); exact ha w9 (by omega)) _ _ _ G (lv_sub hl [1, 2, 3, 4, 5, 6, 0] rfl)
      have c17 : w < n := zk_nle (by omega) (by omega) c17
      refine lv_aload_n Z.1 Z.2.1 dX8_wayTo_20 rfl (lv_at hl 0 rfl) ?_
      refine zk_get (C := RX8) (T := TX8) (N := 48) (ci := 8) Z hK G hinX8 0 rfl rfl 22 (by decide) (List.mem_cons_of_mem _ wa8_19) rfl (v := .ref (b 22)) rfl dX8_wayTo_21 ?_
      refine lv_bipush (v := nI 7) Z.1 Z.2.1 dX8_wayTo_24 (by decide +kernel) ?_
      refine lv_iload Z.1 Z.2.1 dX8_wayTo_26 (lv_at hl 5 rfl) ?_
      refine zk_imul Z dX8_wayTo_28 (z := nI (7 * sn)) (pk_mul _ _) ?_
      refine lv_iload Z.1 Z.2.1 dX8_wayTo_29 (lv_at hl 6 rfl) ?_
      refine zk_iadd Z dX8_wayTo_31 (z := nI (7 * sn + w)) (nI_add _ _) ?_
      refine lv_iload Z.1 Z.2.1 dX8_wayTo_32 (lv_at hl 6 rfl) ?_
      refine lv_iload_n Z.1 Z.2.1 dX8_wayTo_34 rfl (lv_at hl 2 rfl) ?_
      refine lv_icmp_ne (tgt := 42) Z.1 Z.2.1 dX8_wayTo_35 (by decide) (fun c35 => ?_) (fun c35 => ?_)
      · have c35 : w ≠ q := zk_neq (by omega) (by omega) c35
        refine lv_ldc (v := nI 1000000) Z.1 Z.2.1 Z.2.2.2.1 (Z.2.2.2.2 _ (List.mem_cons_of_mem _ wa8_187)) dX8_wayTo_42 ?_
        refine zk_iast Z hK G 4 rfl (k := 7 * sn + w) (by omega) (by decide) (zs_up_n _ _ _) (ws' := [(b 100, .inr (8, [.ref (b 0), .ref (b 1), .ref (b 2), .ref (b 3), .int (m 4), .int (m 5), .int (nI n), .int (m 7), .ref (b 8), .int (m 9), .ref (b 10), .int (m 11), .int (m 12), .int (m 13), .int (m 14), .int (m 15), .int (m 16), .ref (b 17), .ref (b 18), .ref (b 19), .ref (b 20), .ref (b 21), .ref (b 22), .ref (b 23), .ref (b 24), .int (m 25), .int (m 26), .int (m 27), .int (m 28), .ref (b 29), .ref (b 30), .int (m 31), .int (m 32), .int (m 33), .int (m 34), .int (m 35), .ref (b 36), .ref (b 37), .int (m 38), .ref (b 39), .ref (b 40), .int (m 41), .int (m 42), .int (m 43), .ref (b 44), .ref (b 45), .ref (b 46), .ref (b 47)])), (b 18, .inl (g 3, 6468, .inl SN)), (b 19, .inl (g 0, 49, .inl (fun i => nI (PR i)))), (b 20, .inl (g 0, 4207, .inl (fun i => nI (ST i)))), (b 22, .inl (g 0, 4207, .inl (fun i => nI (zs_up FW1 (7 * sn + w) 1000000 i))))]) rfl dX8_wayTo_44 (fun H locs G => ?_)
        refine lv_iinc (v := nI (w + 1)) (lv' := [(6, .int (nI (w + 1))), (0, .ref (b 100)), (1, .int (nI p)), (2, .int (nI q)), (3, .int (nI t)), (4, .int (nI bh)), (5, .int (nI sn))]) Z.1 Z.2.1 dX8_wayTo_45 hl (k := 6) rfl (zk_inc w 1) (by decide) rfl (fun ls hl => ?_)
        refine lv_goto (tgt := 11) Z.1 Z.2.1 dX8_wayTo_48 (by decide) ?_
        exact ih11 (w + 1) (zs_up FW1 (7 * sn + w) 1000000) (by omega) (by omega) (by intro w9 h9; simp only [zs_up]; by_cases e9 : w9 = w; subst e9; rw [if_pos rfl]; exact (if_neg c35).symm; rw [if_neg (by omega)]; exact ha w9 (by omega)) _ _ _ G (lv_sub hl [1, 2, 3, 4, 5, 6, 0] rfl)
      have c35 : w = q := zk_eq (by omega) (by omega) c35
      refine lv_iconst (v := nI 0) Z.1 Z.2.1 dX8_wayTo_38 (by decide +kernel) ?_
      refine lv_goto (tgt := 44) Z.1 Z.2.1 dX8_wayTo_39 (by decide) ?_
      refine zk_iast Z hK G 4 rfl (k := 7 * sn + w) (by omega) (by decide) (zs_up_n _ _ _) (ws' := [(b 100, .inr (8, [.ref (b 0), .ref (b 1), .ref (b 2), .ref (b 3), .int (m 4), .int (m 5), .int (nI n), .int (m 7), .ref (b 8), .int (m 9), .ref (b 10), .int (m 11), .int (m 12), .int (m 13), .int (m 14), .int (m 15), .int (m 16), .ref (b 17), .ref (b 18), .ref (b 19), .ref (b 20), .ref (b 21), .ref (b 22), .ref (b 23), .ref (b 24), .int (m 25), .int (m 26), .int (m 27), .int (m 28), .ref (b 29), .ref (b 30), .int (m 31), .int (m 32), .int (m 33), .int (m 34), .int (m 35), .ref (b 36), .ref (b 37), .int (m 38), .ref (b 39), .ref (b 40), .int (m 41), .int (m 42), .int (m 43), .ref (b 44), .ref (b 45), .ref (b 46), .ref (b 47)])), (b 18, .inl (g 3, 6468, .inl SN)), (b 19, .inl (g 0, 49, .inl (fun i => nI (PR i)))), (b 20, .inl (g 0, 4207, .inl (fun i => nI (ST i)))), (b 22, .inl (g 0, 4207, .inl (fun i => nI (zs_up FW1 (7 * sn + w) 0 i))))]) rfl dX8_wayTo_44 (fun H locs G => ?_)
      refine lv_iinc (v := nI (w + 1)) (lv' := [(6, .int (nI (w + 1))), (0, .ref (b 100)), (1, .int (nI p)), (2, .int (nI q)), (3, .int (nI t)), (4, .int (nI bh)), (5, .int (nI sn))]) Z.1 Z.2.1 dX8_wayTo_45 hl (k := 6) rfl (zk_inc w 1) (by decide) rfl (fun ls hl => ?_)
      refine lv_goto (tgt := 11) Z.1 Z.2.1 dX8_wayTo_48 (by decide) ?_
      exact ih11 (w + 1) (zs_up FW1 (7 * sn + w) 0) (by omega) (by omega) (by intro w9 h9; simp only [zs_up]; by_cases e9 : w9 = w; subst e9; rw [if_pos rfl]; exact (if_pos c35).symm; rw [if_neg (by omega)]; exact ha w9 (by omega)) _ _ _ G (lv_sub hl [1, 2, 3, 4, 5, 6, 0] rfl)
  exact L11 _ 0 FW (Nat.lt_succ_self _) (by omega) (by intro w9 h9; omega) _ _ _ G (lv_sub hl [2, 3, 4, 5, 6, 1, 0] rfl)
