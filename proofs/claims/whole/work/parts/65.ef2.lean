/-! Mend, undone, done again; what is told; messages; pictures. -/
section EF2
variable {n hide storm : Nat} {P S Q M : Nat → Nat}
theorem ze_toldN (h : ze_D n hide storm P S Q M) {i k : Nat} (hk : k ≤ 4) (hi : k < 3 → i < n) : zu_toldN P S Q hide storm i k = M (ze_wh k i) := by
  have h2 := fun hi => h.2.1.1 i hi
  have h3 := h.2.1.2
  have h4 := h.2.2.1
  unfold zu_toldN ze_wh
  rcases (by omega : k = 0 ∨ k = 1 ∨ k = 2 ∨ k = 3 ∨ k = 4) with e | e | e | e | e
  · subst e; exact (h2 (hi (by decide))).1
  · subst e; exact (h2 (hi (by decide))).2.1
  · subst e; exact (h2 (hi (by decide))).2.2
  · subst e; exact h3
  · subst e; exact h4
theorem ze_whI {k i : Nat} (hk : k ≤ 4) (hi : i < 2 ^ 31) : zm_wh (nI k) (nI i) = ze_wh k i := by
  unfold zm_wh ze_wh
  rw [zb_nat hi]
  rcases (by omega : k = 0 ∨ k = 1 ∨ k = 2 ∨ k = 3 ∨ k = 4) with e | e | e | e | e <;> subst e <;> rfl
theorem ze_fit {i k : Nat} {v : Int32} (hW : zs_W n P S) (hk : k ≤ 4) (hi : k < 3 → i < n) (hi7 : i < 7) (h : zu_fit P i (nI k) v = true) : ∃ x : Nat, x < 2 ^ 31 ∧ v = nI x ∧ ze_vo n k i x := by
  have t0 : (0 : Int32).toInt = 0 := rfl
  have t1 : (1 : Int32).toInt = 1 := rfl
  have t12 : (12 : Int32).toInt = 12 := rfl
  have t9 : (9 : Int32).toInt = 9 := rfl
  have t180 : (180 : Int32).toInt = 180 := rfl
  unfold zu_fit at h
  have fin : 0 ≤ v.toInt → (∀ x : Nat, x < 2 ^ 31 → v.toInt = x → ze_vo n k i x) → ∃ x : Nat, x < 2 ^ 31 ∧ v = nI x ∧ ze_vo n k i x := fun h1 h2 => by
    obtain ⟨x, hx, e, -⟩ := zb_of h1
    exact ⟨x, hx, e, h2 x hx (by rw [e]; exact nI_toInt hx)⟩
  rcases (by omega : k = 0 ∨ k = 1 ∨ k = 2 ∨ k = 3 ∨ k = 4) with e | e | e | e | e
  · subst e
    rw [if_pos rfl] at h
    simp only [Bool.and_eq_true, decide_eq_true_eq, zb_lt, t1, t12] at h
    exact fin (by omega) (fun x hx e => ⟨hi7, hk, fun _ => ⟨hi (by decide), by omega, by omega⟩, fun q => absurd q (by decide), fun q => absurd q (by decide), fun q => absurd q (by decide), fun q => absurd q (by decide)⟩)
  · subst e
    have hW1 := hW.2 i (hi (by decide))
    rw [if_neg (by decide), if_pos rfl] at h
    simp only [Bool.and_eq_true, decide_eq_true_eq, zb_lt, zb_le, t0] at h
    rw [nI_toInt (by omega)] at h
    exact fin (by omega) (fun x hx e => ⟨hi7, hk, fun q => absurd q (by decide), fun _ => ⟨hi (by decide), by omega⟩, fun q => absurd q (by decide), fun q => absurd q (by decide), fun q => absurd q (by decide)⟩)
  · subst e
    rw [if_neg (by decide), if_neg (by decide), if_pos rfl] at h
    simp only [Bool.and_eq_true, decide_eq_true_eq, zb_lt, t1, t9] at h
    exact fin (by omega) (fun x hx e => ⟨hi7, hk, fun q => absurd q (by decide), fun q => absurd q (by decide), fun _ => ⟨hi (by decide), by omega⟩, fun q => absurd q (by decide), fun q => absurd q (by decide)⟩)
  · subst e
    rw [if_neg (by decide), if_neg (by decide), if_neg (by decide), if_pos rfl] at h
    simp only [Bool.and_eq_true, decide_eq_true_eq, zb_lt, t0, t180] at h
    exact fin (by omega) (fun x hx e => ⟨hi7, hk, fun q => absurd q (by decide), fun q => absurd q (by decide), fun q => absurd q (by decide), fun _ => by omega, fun q => absurd q (by decide)⟩)
  · subst e
    rw [if_neg (by decide), if_neg (by decide), if_neg (by decide), if_neg (by decide)] at h
    simp only [Bool.and_eq_true, decide_eq_true_eq, zb_lt, zb_le, t0, t12] at h
    exact fin (by omega) (fun x hx e => ⟨hi7, hk, fun q => absurd q (by decide), fun q => absurd q (by decide), fun q => absurd q (by decide), fun q => absurd q (by decide), fun _ => by omega⟩)
/-- what a call of mend that is taken says -/
theorem ze_acc_ex (h : ze_D n hide storm P S Q M) {number what v : Int32} (ha : zm_acc n M number what v = true) :
    ∃ i k x : Nat, i < 2 ^ 31 ∧ k ≤ 4 ∧ x < 2 ^ 31 ∧ number = nI i ∧ what = nI k ∧ v = nI x ∧ ze_vo n k i x ∧ (k < 3 → i < n) := by
  rw [ze_acc h, Bool.and_eq_true] at ha
  obtain ⟨i, k, h1, h2, rfl, rfl, h3, h4⟩ := zu_mendable_ex h.2.2.2.1.1 ha.1
  have ha2 := ha.2
  rw [zb_nat (by omega)] at ha2
  obtain ⟨x, hx, rfl, hv⟩ := ze_fit h.2.2.2.1 h2 h4 h1 ha2
  exact ⟨i, k, x, by omega, h2, hx, rfl, rfl, rfl, hv, h4⟩
theorem ze_mend (h : ze_D n hide storm P S Q M) (number what v : Int32) : zu_mend n P S Q hide storm number what v = if zm_acc n M number what v = true then nI (M (zm_wh what number)) else (-1) := by
  unfold zu_mend
  rw [← ze_acc h]
  by_cases ha : zm_acc n M number what v = true
  · rw [if_pos ha, if_pos ha]
    obtain ⟨i, k, x, h1, h2, h3, rfl, rfl, rfl, h4, h5⟩ := ze_acc_ex h ha
    rw [zb_nat h1, zu_told_n (by omega), ze_toldN h h2 h5, ze_whI h2 h1]
  · rw [if_neg ha, if_neg ha]
theorem ze_chg (h : ze_D n hide storm P S Q M) {i k x : Nat} (h1 : i < 2 ^ 31) (h2 : k ≤ 4) (h3 : x < 2 ^ 31) (h5 : k < 3 → i < n) (ha : zm_acc n M (nI i) (nI k) (nI x) = true) : (zu_chg n P S Q hide storm (nI i) (nI k) (nI x) = true ↔ ¬ M (ze_wh k i) = x) ∧ (zu_told P S Q hide storm i (nI k)).toInt.toNat = M (ze_wh k i) := by
  have h9 := h.2.2.2.2.2.2.2 (ze_wh k i)
  have e : zu_told P S Q hide storm i (nI k) = nI (M (ze_wh k i)) := by rw [zu_told_n (by omega), ze_toldN h h2 h5]
  unfold zu_chg
  rw [← ze_acc h, ha, Bool.true_and, zb_nat h1, e, zb_nat (by omega), decide_eq_true_eq, nI_eq (by omega) h3]
  exact ⟨Iff.rfl, rfl⟩
theorem ze_chg_n (h : ze_D n hide storm P S Q M) {number what v : Int32} (ha : ¬ zm_acc n M number what v = true) : zu_chg n P S Q hide storm number what v = false := by
  unfold zu_chg
  rw [← ze_acc h, (Bool.not_eq_true _).mp ha, Bool.false_and]
/-! The changes that are kept. -/
def ze_Ch (n d z : Nat) (N A1 O1 F CA CW CI : Nat → Nat) : Prop := d ≤ z ∧ z ≤ 40 ∧ ∀ j, j < z → CA j = ze_wh (A1 j) (N j) ∧ CW j = O1 j ∧ CI j = F j ∧ ze_vo n (A1 j) (N j) (O1 j) ∧ ze_vo n (A1 j) (N j) (F j)
theorem ze_Ch_up {n1 d z : Nat} {N A1 O1 F CA CW CI : Nat → Nat} (h : ze_Ch n d z N A1 O1 F CA CW CI) (hn : n ≤ n1) : ze_Ch n1 d z N A1 O1 F CA CW CI :=
  ⟨h.1, h.2.1, fun j hj => by
    obtain ⟨a, b, c, d9, e⟩ := h.2.2 j hj
    exact ⟨a, b, c, ze_vo_up d9 hn, ze_vo_up e hn⟩⟩
theorem ze_Ch_add {d z i k x w : Nat} {N A1 O1 F CA CW CI : Nat → Nat} (h : ze_Ch n d z N A1 O1 F CA CW CI) (hv : ze_vo n k i x) (hw : ze_vo n k i w) :
    ze_Ch n (zc_d d + 1) (zc_d d + 1) (zs_up (zc_f d N) (zc_d d) i) (zs_up (zc_f d A1) (zc_d d) k) (zs_up (zc_f d O1) (zc_d d) w) (zs_up (zc_f d F) (zc_d d) x) (zs_up (zc_f d CA) (zc_d d) (ze_wh k i)) (zs_up (zc_f d CW) (zc_d d) w) (zs_up (zc_f d CI) (zc_d d) x) := by
  obtain ⟨h1, h2, h3⟩ := h
  have hd : zc_d d ≤ 39 := by unfold zc_d; split <;> omega
  refine ⟨Nat.le_refl _, by omega, fun j hj => ?_⟩
  by_cases e : j = zc_d d
  · simp only [zs_up]
    rw [if_pos e, if_pos e, if_pos e, if_pos e, if_pos e, if_pos e, if_pos e]
    exact ⟨rfl, rfl, rfl, hw, hv⟩
  · simp only [zs_up]
    rw [if_neg e, if_neg e, if_neg e, if_neg e, if_neg e, if_neg e, if_neg e]
    by_cases h4 : d < 40
    · have e9 : ∀ f, zc_f d f = f := fun f => if_pos h4
      have e8 : zc_d d = d := if_pos h4
      rw [e9, e9, e9, e9, e9, e9, e9]
      exact h3 j (by omega)
    · have e9 : ∀ f, zc_f d f = zc_sh f := fun f => if_neg h4
      have e8 : zc_d d = 39 := if_neg h4
      rw [e9, e9, e9, e9, e9, e9, e9]
      have e7 : ∀ f, zc_sh f j = f (j + 1) := fun f => if_pos (by omega)
      rw [e7, e7, e7, e7, e7, e7, e7]
      exact h3 (j + 1) (by omega)
theorem ze_Mvo (h : ze_D n hide storm P S Q M) {i k x : Nat} (hv : ze_vo n k i x) : ze_vo n k i (M (ze_wh k i)) := by
  obtain ⟨v1, v2, v3, v4, v5, v6, v7⟩ := hv
  have h2 := fun hi => h.2.1.1 i hi
  have h3 := h.2.1.2
  have h4 := h.2.2.1
  refine ⟨v1, v2, fun e => ?_, fun e => ?_, fun e => ?_, fun e => ?_, fun e => ?_⟩
  · have q := v3 e
    have q2 := h2 q.1
    have q3 := h.2.2.2.1.2 i q.1
    subst e
    show i < n ∧ 1 ≤ M i ∧ M i ≤ 12
    omega
  · have q := v4 e
    have q2 := h2 q.1
    have q3 := h.2.2.2.1.2 i q.1
    subst e
    show i < n ∧ M (7 + i) < 12
    omega
  · have q := v5 e
    have q2 := h2 q.1
    have q3 := h.2.2.2.2.1 i q.1
    subst e
    show i < n ∧ M (14 + i) ≤ 9
    omega
  · subst e
    show M 21 ≤ 180
    have := h.2.2.2.2.2.1
    omega
  · subst e
    show M 22 ≤ 11
    have := h.2.2.2.2.2.2.1
    omega
/-! Messages. -/
def ze_Ms (n m1 : Nat) (Sn Tg : Nat → Nat) (Hd Av : Nat → Int32) (MS : Nat → Int32) : Prop := m1 ≤ 10 ∧ (∀ x, x < m1 → MS (4 * x) = nI (Sn x) ∧ MS (4 * x + 1) = nI (Tg x) ∧ MS (4 * x + 2) = Hd x ∧ MS (4 * x + 3) = Av x) ∧ zd_ok n m1 Tg Hd ∧ (∀ x, x < m1 → Av x = -2 ∨ (Hd x = nI (Tg x) ∧ ∃ y : Nat, y < 2 ^ 30 ∧ Av x = nI y))
def ze_Ld (n : Nat) (Ld HD : Nat → Nat) : Prop := (∀ w, w < 6 → HD w = Ld w) ∧ ∀ w, n ≤ w → w < 6 → Ld w = 0
theorem ze_Ms_up {n1 m1 : Nat} {Sn Tg : Nat → Nat} {Hd Av MS : Nat → Int32} (h : ze_Ms n m1 Sn Tg Hd Av MS) (hn : n ≤ n1) : ze_Ms n1 m1 Sn Tg Hd Av MS :=
  ⟨h.1, h.2.1, fun x hx => ⟨Nat.lt_of_lt_of_le (h.2.2.1 x hx).1 hn, (h.2.2.1 x hx).2.imp id (fun q => by
    obtain ⟨y, hy, e⟩ := q
    exact ⟨y, Nat.lt_of_lt_of_le hy hn, e⟩)⟩, h.2.2.2⟩
theorem ze_Ld_up {n1 : Nat} {Ld HD : Nat → Nat} (h : ze_Ld n Ld HD) (hn : n ≤ n1) : ze_Ld n1 Ld HD := ⟨h.1, fun w h1 h2 => h.2 w (by omega) h2⟩
theorem ze_upd {f : Nat → Int32} {k x : Nat} {v : Int32} : upd f k v x = if x = k then v else f x := rfl
theorem ze_send {m1 p q : Nat} {Sn Tg : Nat → Nat} {Hd Av MS : Nat → Int32} (h : ze_Ms n m1 Sn Tg Hd Av MS) (hm : m1 < 10) (hp : p < n) (hq : q < n) : ze_Ms n (m1 + 1) (zs_up Sn m1 p) (zs_up Tg m1 q) (upd Hd m1 (nI p)) (upd Av m1 (-2)) (zm_snd MS m1 p q) := by
  obtain ⟨h1, h2, h3, h4⟩ := h
  refine ⟨hm, fun x hx => ?_, fun x hx => ?_, fun x hx => ?_⟩
  · simp only [zm_snd, zs_up, ze_upd]
    by_cases e : x = m1
    · subst e
      simp
    · obtain ⟨q1, q2, q3, q4⟩ := h2 x (by omega)
      refine ⟨?_, ?_, ?_, ?_⟩ <;> (repeat rw [if_neg (by omega)]) <;> assumption
  · simp only [zs_up, ze_upd]
    by_cases e : x = m1
    · rw [if_pos e, if_pos e]; exact ⟨hq, Or.inr ⟨p, hp, rfl⟩⟩
    · rw [if_neg e, if_neg e]; exact h3 x (by omega)
  · simp only [zs_up, ze_upd]
    by_cases e : x = m1
    · rw [if_pos e]; exact Or.inl rfl
    · rw [if_neg e, if_neg e, if_neg e]; exact h4 x (by omega)
theorem ze_cnt {m1 : Nat} {Sn Tg : Nat → Nat} {Hd Av MS : Nat → Int32} (h : ze_Ms n m1 Sn Tg Hd Av MS) : ∀ k, k ≤ m1 → zd_cnt Av k = zm_cnt MS k
  | 0, _ => rfl
  | k + 1, hk => by
    simp only [zd_cnt, zm_cnt]
    rw [ze_cnt h k (by omega), (h.2.1 k (by omega)).2.2.2]
    rcases h.2.2.2 k (by omega) with e | ⟨-, y, hy, e⟩
    · rw [e, if_pos rfl, if_neg (by decide)]
    · rw [e, if_neg (zc_ne (by omega)), if_pos (nI_pos' (by omega))]
theorem ze_count {m1 ln d zr rn : Nat} {Sn Tg : Nat → Nat} {Hd Av MS : Nat → Int32} (h : ze_Ms n m1 Sn Tg Hd Av MS) (what : Int32) : zu_count n m1 Av ln d zr rn what = zm_count n m1 MS ln d zr rn what := by
  unfold zu_count zm_count
  rw [ze_cnt h m1 (Nat.le_refl _)]
/-! Of. -/
theorem ze_of {m1 now : Nat} {Sn Tg Ld HD : Nat → Nat} {Hd Av MS : Nat → Int32} (h : ze_D n hide storm P S Q M) (hm : ze_Ms n m1 Sn Tg Hd Av MS) (hl : ze_Ld n Ld HD) (number what : Int32) :
    zu_of n P S Q hide storm now m1 Ld Sn Tg Hd Av number what = zm_of n M HD now m1 MS number what := by
  have hn6 := h.1
  unfold zu_of zm_of
  have l20 : (20 : Int32) = nI 20 := rfl
  have l10 : (10 : Int32) = nI 10 := rfl
  rw [l20, l10]
  by_cases c9 : what < 0
  · have t0 : (0 : Int32).toInt = 0 := rfl
    have w0 : what.toInt < 0 := by have := (zb_lt what 0).mp c9; omega
    have hne : ∀ k : Nat, k < 2 ^ 31 → ¬ what = nI k := fun k hk q => by rw [q, nI_toInt hk] at w0; omega
    have g20 : ¬ nI 20 ≤ what := fun q => by
      have := (zb_le _ _).mp q
      rw [nI_toInt (by decide)] at this
      omega
    have g10 : ¬ nI 10 ≤ what := fun q => by
      have := (zb_le _ _).mp q
      rw [nI_toInt (by decide)] at this
      omega
    have e4 : zm_in what.toInt64 (lN 0) (lN 4) = false := by
      rw [zm_in_c what 0 4 (by decide) (by decide), Bool.and_eq_false_iff]
      exact Or.inl (decide_eq_false (by omega))
    have e10 : zm_in what.toInt64 (lN 10) (lN 13) = false := by
      rw [zm_in_c what 10 13 (by decide) (by decide), Bool.and_eq_false_iff]
      exact Or.inl (decide_eq_false (by omega))
    have ew : ∀ i, zu_ofWd P S Q hide storm now Ld i what = -1 := fun i => by
      unfold zu_ofWd
      rw [if_neg (hne 0 (by decide)), if_neg (hne 1 (by decide)), if_neg (hne 2 (by decide)), if_neg (hne 3 (by decide)), if_neg (hne 4 (by decide))]
    rw [if_neg g20, if_neg g10, e4, e10, if_neg (show ¬ false = true by decide), if_neg (show ¬ false = true by decide), if_neg (hne 20 (by decide)), if_neg (hne 21 (by decide)), if_neg (hne 22 (by decide)), if_neg (hne 23 (by decide)), ew]
    rw [ite_self, ite_self]
  · obtain ⟨k, hk, rfl⟩ := nI_of c9
    have f20 := nI_leI (a := 20) (b := k) (by decide) hk
    have f10 := nI_leI (a := 10) (b := k) (by decide) hk
    have e4 : zm_in (nI k).toInt64 (lN 0) (lN 4) = decide (k ≤ 4) := by
      rw [zm_in_c _ 0 4 (by decide) (by decide), nI_toInt hk, Bool.eq_iff_iff, Bool.and_eq_true, decide_eq_true_eq, decide_eq_true_eq, decide_eq_true_eq]
      omega
    have e10 : zm_in (nI k).toInt64 (lN 10) (lN 13) = decide (10 ≤ k ∧ k ≤ 13) := by
      rw [zm_in_c _ 10 13 (by decide) (by decide), nI_toInt hk, Bool.eq_iff_iff, Bool.and_eq_true, decide_eq_true_eq, decide_eq_true_eq, decide_eq_true_eq]
      omega
    have hdec : ∀ j : Nat, j < 2 ^ 31 → ¬ k = j → ¬ nI k = nI j := fun j hj q e => q ((nI_eq hk hj).mp e)
    have kn : (nI k).toInt.toNat = k := zb_nat hk
    rw [e4, e10]
    by_cases c4 : k ≤ 4
    · rw [if_neg (fun q => by have := f20.mp q; omega), if_neg (fun q => by have := f10.mp q; omega), decide_eq_true c4, if_pos rfl]
      by_cases cw : zb_w n number = true
      · rw [if_pos cw, if_pos cw]
        obtain ⟨i, hi, rfl, hin⟩ := zb_w_ex cw
        have h2 := h.2.1.1 i hin
        rw [zb_nat hi, kn]
        unfold zu_ofWd zm_ofW zu_told
        rcases (by omega : k = 0 ∨ k = 1 ∨ k = 2 ∨ k = 3 ∨ k = 4) with e | e | e | e | e
        · subst e
          rw [if_pos rfl, if_pos rfl, if_neg (by decide), if_neg (by decide), show 7 * 0 + i = i by omega, h2.1]
        · subst e
          rw [if_neg (by decide), if_pos rfl, if_neg (by decide), if_pos rfl, if_neg (by decide), if_neg (by decide), show 7 * 1 + i = 7 + i by omega, h2.2.1]
        · subst e
          rw [if_neg (by decide), if_neg (by decide), if_pos rfl, if_neg (by decide), if_neg (by decide), if_pos rfl, if_neg (by decide), if_neg (by decide), show 7 * 2 + i = 14 + i by omega, h2.2.2]
        · subst e
          rw [if_neg (by decide), if_neg (by decide), if_neg (by decide), if_pos rfl, if_pos rfl, zy_at' h.2.1 hin]
        · subst e
          rw [if_neg (by decide), if_neg (by decide), if_neg (by decide), if_neg (by decide), if_pos rfl, if_neg (by decide), if_pos rfl, hl.1 i (by omega)]
      · rw [if_neg cw, if_neg cw]
    · rw [decide_eq_false c4, if_neg (c := false = true) (by decide)]
      by_cases c20 : 20 ≤ k
      · rw [if_pos (f20.mpr c20), decide_eq_false (show ¬ (10 ≤ k ∧ k ≤ 13) by omega), if_neg (c := false = true) (by decide)]
        by_cases c0 : number = 0
        · rw [if_pos c0, if_pos c0]
          unfold zu_ofW
          rw [h.2.1.2, h.2.2.1, zy_rnd h.2.1 n (Nat.le_refl _)]
        · rw [if_neg c0, if_neg c0]
      · rw [if_neg (fun q => c20 (f20.mp q))]
        by_cases c10 : 10 ≤ k
        · rw [if_pos (f10.mpr c10)]
          by_cases c13 : k ≤ 13
          · rw [decide_eq_true (show 10 ≤ k ∧ k ≤ 13 from ⟨c10, c13⟩), if_pos (c := true = true) rfl]
            by_cases cm : zb_w m1 number = true
            · rw [if_pos cm, if_pos cm]
              obtain ⟨i, hi, rfl, hin⟩ := zb_w_ex cm
              have h2 := hm.2.1 i hin
              rw [zb_nat hi, kn]
              rcases (by omega : k = 10 ∨ k = 11 ∨ k = 12 ∨ k = 13) with e | e | e | e
              · subst e; rw [show 4 * i + 10 - 10 = 4 * i by omega, h2.1]; rfl
              · subst e; rw [show 4 * i + 11 - 10 = 4 * i + 1 by omega, h2.2.1]; rfl
              · subst e; rw [show 4 * i + 12 - 10 = 4 * i + 2 by omega, h2.2.2.1]; rfl
              · subst e; rw [show 4 * i + 13 - 10 = 4 * i + 3 by omega, h2.2.2.2]; rfl
            · rw [if_neg cm, if_neg cm]
          · rw [decide_eq_false (show ¬ (10 ≤ k ∧ k ≤ 13) by omega), if_neg (c := false = true) (by decide)]
            have e9 : ∀ i, zd_of Sn Tg Hd Av i (nI k - nI 10) = -1 := fun i => by
              have e8 : nI k - nI 10 = nI (k - 10) := by
                rcases (by omega : k = 14 ∨ k = 15 ∨ k = 16 ∨ k = 17 ∨ k = 18 ∨ k = 19) with e | e | e | e | e | e <;> subst e <;> decide
              rw [e8]
              unfold zd_of
              have hd2 : ∀ j : Nat, j < 4 → ¬ nI (k - 10) = nI j := fun j hj e => by
                have := (nI_eq (by omega) (by omega)).mp e
                omega
              rw [if_neg (hd2 0 (by decide)), if_neg (hd2 1 (by decide)), if_neg (hd2 2 (by decide)), if_neg (hd2 3 (by decide))]
            rw [e9, if_neg (hdec 20 (by decide) (by omega)), if_neg (hdec 21 (by decide) (by omega)), if_neg (hdec 22 (by decide) (by omega)), if_neg (hdec 23 (by decide) (by omega)), ite_self, ite_self]
        · rw [if_neg (fun q => c10 (f10.mp q)), decide_eq_false (show ¬ (10 ≤ k ∧ k ≤ 13) by omega), if_neg (c := false = true) (by decide)]
          have ew : ∀ i, zu_ofWd P S Q hide storm now Ld i (nI k) = -1 := fun i => by
            unfold zu_ofWd
            rw [if_neg (hdec 0 (by decide) (by omega)), if_neg (hdec 1 (by decide) (by omega)), if_neg (hdec 2 (by decide) (by omega)), if_neg (hdec 3 (by decide) (by omega)), if_neg (hdec 4 (by decide) (by omega))]
          rw [ew, if_neg (hdec 20 (by decide) (by omega)), if_neg (hdec 21 (by decide) (by omega)), if_neg (hdec 22 (by decide) (by omega)), if_neg (hdec 23 (by decide) (by omega)), ite_self, ite_self]
end EF2
