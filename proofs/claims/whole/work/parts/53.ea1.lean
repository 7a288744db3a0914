/-! What the class and the reference say of messages: the same. -/
theorem zy_eq {a b : Nat} (h : ∀ x, x ≤ a ↔ x ≤ b) : a = b := Nat.le_antisymm ((h a).mp (Nat.le_refl a)) ((h b).mpr (Nat.le_refl b))
theorem zm_fo_x {c : Nat → Bool} {v : Nat → Nat} {x y : Nat} : ∀ n, x ≤ zm_fo c v y n ↔ x ≤ y ∧ ∀ o, o < n → c o = true → x ≤ v o + 1
  | 0 => ⟨fun h => ⟨h, fun o h1 => absurd h1 (Nat.not_lt_zero o)⟩, fun h => h.1⟩
  | n + 1 => by
    have ih := zm_fo_x (c := c) (v := v) (x := x) (y := y) n
    by_cases hc : c n = true
    · rw [zm_fo_y hc]
      constructor
      · intro h
        have h1 := ih.mp (by omega)
        refine ⟨h1.1, fun o ho hco => ?_⟩
        rcases Nat.lt_or_ge o n with h2 | h2
        · exact h1.2 o h2 hco
        · rw [show o = n by omega]; omega
      · intro h
        have h1 := ih.mpr ⟨h.1, fun o ho => h.2 o (by omega)⟩
        have h2 := h.2 n (Nat.lt_succ_self n) hc
        omega
    · rw [zm_fo_n (by cases h : c n; rfl; exact absurd h hc)]
      constructor
      · intro h
        have h1 := ih.mp h
        refine ⟨h1.1, fun o ho hco => ?_⟩
        rcases Nat.lt_or_ge o n with h2 | h2
        · exact h1.2 o h2 hco
        · rw [show o = n by omega] at hco; exact absurd hco hc
      · intro h
        exact ih.mpr ⟨h.1, fun o ho => h.2 o (by omega)⟩
theorem zv_rn_x {O B : Nat → Nat} {hand w i x : Nat} : ∀ K, K ≤ 21 → (x ≤ zv_rn O hand w B K i ↔ x ≤ B i ∧ ∀ k, k < K → w / 2 ^ k % 2 ≠ 0 → (zk_les k = i → x ≤ O (zk_gre k) + hand) ∧ (zk_gre k = i → x ≤ O (zk_les k) + hand))
  | 0, _ => ⟨fun h => ⟨h, fun k h1 => absurd h1 (Nat.not_lt_zero k)⟩, fun h => h.1⟩
  | K + 1, hK => by
    have ih := zv_rn_x (O := O) (B := B) (hand := hand) (w := w) (i := i) (x := x) K (by omega)
    have hl := zk_les_gre (show K < 21 by omega)
    by_cases hw : w / 2 ^ K % 2 = 0
    · rw [zv_rn_n hw, ih]
      constructor
      · rintro ⟨h1, h2⟩
        refine ⟨h1, fun k hk hwk => ?_⟩
        rcases Nat.lt_or_ge k K with h3 | h3
        · exact h2 k h3 hwk
        · rw [show k = K by omega] at hwk; exact absurd hw hwk
      · rintro ⟨h1, h2⟩
        exact ⟨h1, fun k hk => h2 k (by omega)⟩
    · rw [zv_rn_y hw]
      have e : x ≤ zv_two O hand (zk_les K) (zk_gre K) (zv_rn O hand w B K) i ↔ x ≤ zv_rn O hand w B K i ∧ (zk_les K = i → x ≤ O (zk_gre K) + hand) ∧ (zk_gre K = i → x ≤ O (zk_les K) + hand) := by
        simp only [zv_two, zs_up]
        by_cases h1 : i = zk_gre K
        · rw [if_pos h1, if_neg (show ¬ zk_gre K = zk_les K by omega)]
          have hB := congrArg (zv_rn O hand w B K) h1
          constructor
          · intro h; exact ⟨by omega, fun q => by omega, fun _ => by omega⟩
          · intro h; have := h.2.2 h1.symm; omega
        · rw [if_neg h1]
          by_cases h2 : i = zk_les K
          · rw [if_pos h2]
            have hB := congrArg (zv_rn O hand w B K) h2
            constructor
            · intro h; exact ⟨by omega, fun _ => by omega, fun q => absurd q.symm h1⟩
            · intro h; have := h.2.1 h2.symm; omega
          · rw [if_neg h2]
            exact ⟨fun h => ⟨h, fun q => absurd q.symm h2, fun q => absurd q.symm h1⟩, fun h => h.1⟩
      rw [e, ih]
      constructor
      · rintro ⟨⟨h1, h2⟩, h3⟩
        refine ⟨h1, fun k hk hwk => ?_⟩
        rcases Nat.lt_or_ge k K with h4 | h4
        · exact h2 k h4 hwk
        · rw [show k = K by omega]; exact h3
      · rintro ⟨h1, h2⟩
        exact ⟨⟨h1, fun k hk => h2 k (by omega)⟩, h2 K (Nat.lt_succ_self K) hw⟩
/-- a word of sights tells who sees whom -/
def zy_ok (n : Nat) (s : Nat → Nat → Nat → Bool) (wd : Nat → Nat) : Prop := n ≤ 7 ∧ (∀ a b t, s a b t = s b a t) ∧ ∀ t k, k < n * (n - 1) / 2 → (wd t / 2 ^ k % 2 ≠ 0 ↔ s (zk_les k) (zk_gre k) t = true)
theorem zy_rn {n : Nat} {s : Nat → Nat → Nat → Bool} {wd : Nat → Nat} (h : zy_ok n s wd) {O B : Nat → Nat} {hand t i x : Nat} (hi : i < n) : x ≤ zv_rn O hand (wd t) B (n * (n - 1) / 2) i ↔ x ≤ B i ∧ ∀ o, o < n → o ≠ i → s i o t = true → x ≤ O o + hand := by
  obtain ⟨hn, hs, hw⟩ := h
  rw [zv_rn_x _ (zw_le21 hn)]
  constructor
  · rintro ⟨h1, h2⟩
    refine ⟨h1, fun o ho hoi hso => ?_⟩
    rcases Nat.lt_or_gt_of_ne hoi with h3 | h3
    · obtain ⟨e1, e2, e3⟩ := zk_pr h3 (by omega)
      have hk := zm_tri hn h3 hi
      have h4 := h2 _ hk ((hw t _ hk).mpr (by rw [e2, e3, hs]; exact hso))
      have h5 := h4.2 e3
      rw [e2] at h5; exact h5
    · obtain ⟨e1, e2, e3⟩ := zk_pr h3 (by omega)
      have hk := zm_tri hn h3 ho
      have h4 := h2 _ hk ((hw t _ hk).mpr (by rw [e2, e3]; exact hso))
      have h5 := h4.1 e2
      rw [e3] at h5; exact h5
  · rintro ⟨h1, h2⟩
    refine ⟨h1, fun k hk hwk => ?_⟩
    have h3 := zw_tri_gre hn hk
    have h4 := zk_les_gre h3.1
    have h5 := (hw t k hk).mp hwk
    constructor
    · intro e; exact h2 _ h3.2 (by omega) (by rw [← e]; exact h5)
    · intro e; exact h2 _ (by omega) (by omega) (by rw [← e, hs]; exact h5)
theorem zx_bes_in {W D w : Nat} (h : W.testBit w = true) : ∀ K, (zw_bes W D K).testBit w = true
  | 0 => h
  | K + 1 => by
    have ih := zx_bes_in (D := D) h K
    simp only [zw_bes]; split
    · rw [Nat.testBit_or, ih]; rfl
    · exact ih
theorem zx_bes_k {W D k w : Nat} (h : D / 2 ^ k % 2 = 1) (hb : W &&& zw_both k ≠ 0) (hw : (zw_both k).testBit w = true) : ∀ K, k < K → (zw_bes W D K).testBit w = true
  | 0, q => absurd q (Nat.not_lt_zero k)
  | K + 1, q => by
    simp only [zw_bes]
    by_cases e : k = K
    · subst e; rw [if_pos ⟨h, hb⟩, Nat.testBit_or, hw]; exact Bool.or_true _
    · have ih := zx_bes_k h hb hw K (by omega)
      split
      · rw [Nat.testBit_or, ih]; rfl
      · exact ih
theorem zy_bes {n : Nat} {s : Nat → Nat → Nat → Bool} {wd : Nat → Nat} (h : zy_ok n s wd) {W t w : Nat} (hw : w < n) : (zw_bes W (wd t) (n * (n - 1) / 2)).testBit w = true ↔ W.testBit w = true ∨ ∃ o, o < n ∧ o ≠ w ∧ s w o t = true ∧ W.testBit o = true := by
  obtain ⟨hn, hs, hwd⟩ := h
  constructor
  · intro h1
    rcases zx_bes _ h1 with h2 | ⟨k, h2, h3, h4⟩
    · exact Or.inl h2
    · have h5 := zw_tri_gre hn h2
      have h6 := zk_les_gre h5.1
      have h7 := (hwd t k h2).mp (by omega)
      rcases h4 with ⟨e, hb⟩ | ⟨e, hb⟩
      · exact Or.inr ⟨_, h5.2, by omega, by rw [← e]; exact h7, hb⟩
      · exact Or.inr ⟨_, by omega, by omega, by rw [← e, hs]; exact h7, hb⟩
  · rintro (h1 | ⟨o, ho, how, hso, hb⟩)
    · exact zx_bes_in h1 _
    · rcases Nat.lt_or_gt_of_ne how with h3 | h3
      · obtain ⟨e1, e2, e3⟩ := zk_pr h3 (by omega)
        have hk := zm_tri hn h3 hw
        have h4 := (hwd t _ hk).mpr (by rw [e2, e3, hs]; exact hso)
        exact zx_bes_k (by omega) ((zx_both _ _).mpr (Or.inl (by rw [e2]; exact hb))) (by rw [zx_bb, e3, decide_eq_true rfl]; exact Bool.or_true _) _ hk
      · obtain ⟨e1, e2, e3⟩ := zk_pr h3 (by omega)
        have hk := zm_tri hn h3 ho
        have h4 := (hwd t _ hk).mpr (by rw [e2, e3]; exact hso)
        exact zx_bes_k (by omega) ((zx_both _ _).mpr (Or.inr (by rw [e3]; exact hb))) (by rw [zx_bb, e2, decide_eq_true rfl]; rfl) _ hk
theorem zy_bes_n {n D W w : Nat} (hn : n ≤ 7) (hW : ∀ o, W.testBit o = true → o < n) (h : (zw_bes W D (n * (n - 1) / 2)).testBit w = true) : w < n := by
  rcases zx_bes _ h with h2 | ⟨k, h2, h3, h4⟩
  · exact hW _ h2
  · have h5 := zw_tri_gre hn h2
    have h6 := zk_les_gre h5.1
    rcases h4 with ⟨e, _⟩ | ⟨e, _⟩ <;> omega
/-! Hands still needed; who has it by the way. -/
theorem zy_D {n : Nat} {s : Nat → Nat → Nat → Bool} {wd : Nat → Nat} (h : zy_ok n s wd) {q t sn : Nat} : ∀ d, d ≤ sn → ∀ w, w < n → zm_fw s n q t sn d w = min (zv_D (fun x => wd (t + x)) (n * (n - 1) / 2) q sn d w) 1000000
  | 0, _, w, _ => by simp only [zm_fw, zv_D]; split <;> rfl
  | d + 1, hd, w, hw => by
    have ih := zy_D h (q := q) (t := t) (sn := sn) d (by omega)
    apply zy_eq; intro x
    simp only [zm_fw, zv_D]
    rw [zm_fo_x, Nat.le_min, zy_rn h hw]
    constructor
    · rintro ⟨h1, h2⟩
      rw [ih w hw] at h1
      refine ⟨⟨by omega, fun o ho how hso => ?_⟩, by omega⟩
      have h3 := h2 o ho (by simp only [Bool.and_eq_true, decide_eq_true_eq]; exact ⟨how, hso⟩)
      rw [ih o ho] at h3; omega
    · rintro ⟨⟨h1, h2⟩, h3⟩
      rw [ih w hw]
      refine ⟨by omega, fun o ho hco => ?_⟩
      simp only [Bool.and_eq_true, decide_eq_true_eq] at hco
      have h4 := h2 o ho hco.1 hco.2
      rw [ih o ho]; omega
theorem zy_Dv {W : Nat → Nat} {n q sn d w : Nat} (hn : n ≤ 7) (hw : w < n) : zv_D W (n * (n - 1) / 2) q sn d w < n ∨ zv_D W (n * (n - 1) / 2) q sn d w = 1000000000 := by
  have h1 := zv_D_le W (n * (n - 1) / 2) q sn w d
  rcases Nat.lt_or_ge (zv_D W (n * (n - 1) / 2) q sn d w) 1000000000 with h2 | h2
  · exact Or.inl (zv_fewer_n (zv_D_few hn d) hw h2)
  · exact Or.inr (by omega)
theorem zv_f1_d {s : Nat → Bool} {d d' : Nat} : ∀ f t, (∃ o, t ≤ o ∧ o < t + f ∧ s o = true) → zv_f1 s d f t = zv_f1 s d' f t
  | 0, t, ⟨o, h1, h2, _⟩ => by omega
  | f + 1, t, ⟨o, h1, h2, h3⟩ => by
    simp only [zv_f1]; split
    · rfl
    · rename_i hc
      exact zv_f1_d f (t + 1) ⟨o, by by_cases e : o = t; rw [e] at h3; exact absurd h3 hc; omega, by omega, h3⟩
theorem zy_tb (b w : Nat) : decide (b / 2 ^ w % 2 ≠ 0) = b.testBit w := by
  rw [Nat.testBit_eq_decide_div_mod_eq]
  have h := Nat.mod_lt (b / 2 ^ w) (show 0 < 2 by decide)
  by_cases e : b / 2 ^ w % 2 = 1
  · rw [decide_eq_true e, decide_eq_true (by omega)]
  · rw [decide_eq_false e, decide_eq_false (by omega)]
theorem zy_nc {n : Nat} {s : Nat → Nat → Nat → Bool} {wd : Nat → Nat} (h : zy_ok n s wd) (hn6 : n ≤ 6) {q t sn k has w : Nat} (hk : k < sn) (hh : has < n) (hw : w < n) : zv_hs (zv_Nf (fun x => wd (t + x)) (n * (n - 1) / 2) q sn) (fun x => wd (t + x)) (n * (n - 1) / 2) has k w = zm_nc s (zm_fw s n q t sn (sn - k - 1)) (zm_fw s n q t sn (sn - k) has) has (t + k) w := by
  unfold zv_hs zm_nc
  have e1 : decide (zw_bes (2 ^ has) ((fun x => wd (t + x)) k) (n * (n - 1) / 2) / 2 ^ w % 2 ≠ 0) = (decide (w = has) || s has w (t + k)) := by
    rw [zy_tb, Bool.eq_iff_iff, zy_bes h hw, Nat.testBit_two_pow, Bool.or_eq_true, decide_eq_true_eq, decide_eq_true_eq]
    constructor
    · rintro (e | ⟨o, _, ho2, ho3, ho4⟩)
      · exact Or.inl e.symm
      · rw [Nat.testBit_two_pow, decide_eq_true_eq] at ho4
        subst ho4
        exact Or.inr (by rw [h.2.1]; exact ho3)
    · rintro (e | e)
      · exact Or.inl e.symm
      · by_cases e2 : w = has
        · exact Or.inl e2.symm
        · exact Or.inr ⟨has, hh, fun q => e2 q.symm, by rw [h.2.1]; exact e, by rw [Nat.testBit_two_pow, decide_eq_true rfl]⟩
  rw [e1]
  congr 1
  rw [show k * 6 + 6 + w = (k + 1) * 6 + w by omega, zv_Nf_e (by omega), zv_Nf_e (by omega), zy_D h _ (by omega) w hw, zy_D h _ (by omega) has hh, show sn - (k + 1) = sn - k - 1 by omega]
  have h1 := zy_Dv (W := fun x => wd (t + x)) (q := q) (sn := sn) (d := sn - k - 1) h.1 hw
  have h2 := zy_Dv (W := fun x => wd (t + x)) (q := q) (sn := sn) (d := sn - k) h.1 hh
  rw [Bool.eq_iff_iff, decide_eq_true_eq, decide_eq_true_eq]
  by_cases e : w = has
  · rw [if_pos e]; omega
  · rw [if_neg e]; omega
theorem zy_hold {n : Nat} {s : Nat → Nat → Nat → Bool} {wd : Nat → Nat} (h : zy_ok n s wd) (hn6 : n ≤ 6) {p q t sn : Nat} (hp : p < n) : ∀ k, k ≤ sn → zm_hold s n q t sn p k = zu_who wd (n * (n - 1) / 2) n p q t sn k
  | 0, _ => rfl
  | k + 1, hk => by
    have ih := zy_hold h hn6 (q := q) (t := t) (sn := sn) hp k (by omega)
    have hl := zm_hold_lt (s := s) (q := q) (t := t) (sn := sn) hp k (by omega)
    unfold zu_who at ih ⊢
    simp only [zm_hold, zv_ho, zv_nh]
    rw [← ih]
    obtain ⟨o, h1, h2⟩ := zm_fw_ex (s := s) (q := q) (t := t) hl (show k < sn by omega)
    rw [zv_f1_cg (n := n) (s := zv_hs _ _ _ _ _) (fun w hw => zy_nc h hn6 (show k < sn by omega) hl hw) n 0 (by omega)]
    exact zv_f1_d n 0 ⟨o, Nat.zero_le _, by omega, h2⟩
/-! Reached in so many steps. -/
def zy_r (s : Nat → Nat → Nat → Bool) (n q : Nat) : Nat → Nat → Nat → Prop
  | 0, _, w => w = q
  | j + 1, t, w => zy_r s n q j (t + 1) w ∨ ∃ o, o < n ∧ o ≠ w ∧ s w o t = true ∧ zy_r s n q j (t + 1) o
theorem zy_r_q {s : Nat → Nat → Nat → Bool} {n q : Nat} : ∀ j t, zy_r s n q j t q
  | 0, _ => rfl
  | j + 1, t => Or.inl (zy_r_q j (t + 1))
/-- a table from the last step back tells it -/
theorem zy_back {s : Nat → Nat → Nat → Bool} {n q dm : Nat} {F : Nat → Nat → Nat} {T : Nat → Nat} (h0 : ∀ w, F 0 w = if w = q then 0 else 1000000)
    (h1 : ∀ d w, F (d + 1) w = if w = q then 0 else min (zm_fo (fun o9 => decide (o9 ≠ w) && s w o9 (T (d + 1))) (F d) (F d w + 1) n) 1000000) (hT : ∀ d, d < dm → T d = T (d + 1) + 1) (hdm : dm < 1000000) :
    ∀ d, d ≤ dm → ∀ j, j ≤ d → ∀ w, F d w ≤ j ↔ zy_r s n q j (T d) w
  | 0, _, j, hj, w => by
    obtain rfl : j = 0 := by omega
    rw [h0]
    constructor
    · intro h; by_cases e : w = q
      · exact e
      · rw [if_neg e] at h; omega
    · intro h; rw [if_pos (show w = q from h)]; exact Nat.le_refl 0
  | d + 1, hd, j, hj, w => by
    have ih := zy_back h0 h1 hT hdm d (by omega)
    rw [h1]
    by_cases e : w = q
    · rw [if_pos e, e]; exact ⟨fun _ => zy_r_q j _, fun _ => Nat.zero_le j⟩
    · rw [if_neg e]
      cases j with
      | zero =>
        constructor
        · intro h
          have h2 := (zm_fo_x (c := fun o9 => decide (o9 ≠ w) && s w o9 (T (d + 1))) (v := F d) (x := 1) (y := F d w + 1) n).mpr ⟨by omega, fun o _ _ => by omega⟩
          omega
        · intro h; exact absurd h e
      | succ j =>
        have e2 : min (zm_fo (fun o9 => decide (o9 ≠ w) && s w o9 (T (d + 1))) (F d) (F d w + 1) n) 1000000 ≤ j + 1 ↔ ¬ (j + 2 ≤ zm_fo (fun o9 => decide (o9 ≠ w) && s w o9 (T (d + 1))) (F d) (F d w + 1) n) := by omega
        rw [e2, zm_fo_x]
        show _ ↔ (zy_r s n q j (T (d + 1) + 1) w ∨ ∃ o, o < n ∧ o ≠ w ∧ s w o (T (d + 1)) = true ∧ zy_r s n q j (T (d + 1) + 1) o)
        rw [← hT d (by omega)]
        constructor
        · intro h
          by_cases h2 : F d w ≤ j
          · exact Or.inl ((ih j (by omega) w).mp h2)
          · refine Or.inr (Classical.byContradiction (fun h3 => h ⟨by omega, fun o ho hco => ?_⟩))
            simp only [Bool.and_eq_true, decide_eq_true_eq] at hco
            refine Decidable.byContradiction (fun h4 => h3 ⟨o, ho, hco.1, hco.2, (ih j (by omega) o).mp (by omega)⟩)
        · rintro (h2 | ⟨o, ho, how, hso, h2⟩) h3
          · have h4 := (ih j (by omega) w).mpr h2
            omega
          · have h4 := (ih j (by omega) o).mpr h2
            have h5 := h3.2 o ho (by simp only [Bool.and_eq_true, decide_eq_true_eq]; exact ⟨how, hso⟩)
            omega
theorem zy_bk {s : Nat → Nat → Nat → Bool} {n q t : Nat} {d j w : Nat} (hd : d ≤ 600) (hj : j ≤ d) : zm_bk 1 s n q t d w ≤ j ↔ zy_r s n q j (t + (600 - d)) w :=
  zy_back (s := s) (n := n) (q := q) (dm := 600) (F := zm_bk 1 s n q t) (T := fun d => t + (600 - d)) (fun w => rfl) (fun d w => by simp only [zm_bk]; rw [show 600 - (d + 1) = 599 - d by omega]) (fun d hd => by show t + (600 - d) = t + (600 - (d + 1)) + 1; omega) (by decide) d hd j hj w
theorem zy_sf {s : Nat → Nat → Nat → Bool} {n q l : Nat} (hl : l < 900000) {d j w : Nat} (hd : d ≤ l + 1) (hj : j ≤ d) : zm_sf s n q l d w ≤ j ↔ zy_r s n q j (l + 1 - d) w :=
  zy_back (s := s) (n := n) (q := q) (dm := l + 1) (F := zm_sf s n q l) (T := fun d => l + 1 - d) (fun w => rfl) (fun d w => by simp only [zm_sf]; rw [show l + 1 - (d + 1) = l - d by omega]) (fun d hd => by show l + 1 - d = l + 1 - (d + 1) + 1; omega) (by omega) d hd j hj w
/-- who has it, from the front -/
theorem zy_hv {n : Nat} {s : Nat → Nat → Nat → Bool} {wd : Nat → Nat} (h : zy_ok n s wd) {p q t i : Nat} (hp : p < n) : ∀ k, k ≤ i → (zy_r s n q i t p ↔ ∃ x, x < n ∧ (zv_hv wd (n * (n - 1) / 2) p t k).testBit x = true ∧ zy_r s n q (i - k) (t + k) x)
  | 0, _ => by
    constructor
    · intro h1; exact ⟨p, hp, by simp only [zv_hv]; rw [Nat.testBit_two_pow, decide_eq_true rfl], h1⟩
    · rintro ⟨x, _, h2, h3⟩
      simp only [zv_hv] at h2
      rw [Nat.testBit_two_pow, decide_eq_true_eq] at h2
      subst h2; exact h3
  | k + 1, hk => by
    rw [zy_hv h hp k (by omega)]
    obtain ⟨m, hm⟩ : ∃ m, i - k = m + 1 := ⟨i - k - 1, by omega⟩
    rw [hm, show i - (k + 1) = m by omega]
    constructor
    · rintro ⟨x, hx, h2, h3⟩
      rcases h3 with h3 | ⟨o, ho, hox, hso, h3⟩
      · exact ⟨x, hx, zx_bes_in h2 _, h3⟩
      · exact ⟨o, ho, (zy_bes h ho).mpr (Or.inr ⟨x, hx, fun q9 => hox q9.symm, by rw [h.2.1]; exact hso, h2⟩), h3⟩
    · rintro ⟨x, hx, h2, h3⟩
      rcases (zy_bes h hx).mp h2 with h4 | ⟨o, ho, hox, hso, h4⟩
      · exact ⟨x, hx, h4, Or.inl h3⟩
      · exact ⟨o, ho, h4, Or.inr ⟨x, hx, fun q9 => hox q9.symm, by rw [h.2.1]; exact hso, h3⟩⟩
theorem zy_at {n : Nat} {s : Nat → Nat → Nat → Bool} {wd : Nat → Nat} (h : zy_ok n s wd) {p q t i : Nat} (hp : p < n) (hq : q < n) : zv_at wd (n * (n - 1) / 2) p q t i = true ↔ zy_r s n q i t p := by
  rw [zy_hv h hp i (Nat.le_refl i), Nat.sub_self]
  unfold zv_at
  rw [decide_eq_true_eq, zx_and]
  constructor
  · intro h1; exact ⟨q, hq, h1, rfl⟩
  · rintro ⟨x, _, h1, h2⟩
    have e : x = q := h2
    rw [← e]; exact h1
theorem zc_ne {m : Nat} (h : m < 2 ^ 31) : nI m ≠ -2 := fun q => by
  have h3 := congrArg Int32.toInt q
  rw [nI_toInt h] at h3
  have h4 : (-2 : Int32).toInt = -2 := by decide
  omega
theorem zc_fst_no {s : Nat → Bool} : ∀ f t, zc_fst s f t = -2 → ∀ x, t ≤ x → x < t + f → x < 2 ^ 31 → s x = false
  | 0, _, _, x, h1, h2, _ => by omega
  | f + 1, t, h, x, h1, h2, h3 => by
    by_cases hs : s t = true
    · rw [zc_fst_y hs] at h; exact absurd h (zc_ne (by omega))
    · have hs' : s t = false := by cases h9 : s t; rfl; exact absurd h9 hs
      rw [zc_fst_n hs'] at h
      by_cases e : x = t
      · rw [e]; exact hs'
      · exact zc_fst_no f (t + 1) h x (by omega) (by omega) h3
/-- the fewest steps -/
theorem zy_few {n : Nat} {s : Nat → Nat → Nat → Bool} {wd : Nat → Nat} (h : zy_ok n s wd) {p q t : Nat} (hp : p < n) (hq : q < n) (hpq : p ≠ q) : zv_few wd (n * (n - 1) / 2) p q t = if zm_bk 1 s n q t 600 p < 1000000 then nI (zm_bk 1 s n q t 600 p) else (-2) := by
  have key : ∀ j, j ≤ 600 → (zm_bk 1 s n q t 600 p ≤ j ↔ zv_at wd (n * (n - 1) / 2) p q t j = true) := fun j hj => by
    rw [zy_at h hp hq, zy_bk (Nat.le_refl 600) hj]; rfl
  have h0 : ¬ zm_bk 1 s n q t 600 p ≤ 0 := fun q9 => hpq ((zy_bk (Nat.le_refl 600) (Nat.zero_le 600)).mp q9)
  rcases zc_fst_c (s := zv_at wd (n * (n - 1) / 2) p q t) 600 1 with h1 | ⟨m, h1, h2, h3, h4, h5⟩
  · have h2 : ¬ zm_bk 1 s n q t 600 p < 1000000 := fun q9 => by
      have h3 := (zm_bk_d (s := s) (n := n) (q := q) (t := t) 600 p).resolve_left (by omega)
      have h4 := (key _ h3).mp (Nat.le_refl _)
      have h5 := zc_fst_no (s := zv_at wd (n * (n - 1) / 2) p q t) 600 1 h1 (zm_bk 1 s n q t 600 p) (by omega) (by omega) (by omega)
      rw [h4] at h5; exact absurd h5 (by decide)
    rw [if_neg h2]; exact h1
  · have h6 := (key m (by omega)).mpr h4
    have h7 : zm_bk 1 s n q t 600 p = m := by
      rcases Nat.lt_or_ge (zm_bk 1 s n q t 600 p) m with h8 | h8
      · have h9 := h5 _ (by omega) h8
        rw [(key _ (by omega)).mp (Nat.le_refl _)] at h9
        exact absurd h9 (by decide)
      · omega
    rw [if_pos (by omega), h7]; exact h1
