/-! Shelves and books: one relation of both objects. -/
section EF3
/-- what a shelf holds: nothing, a body, a row -/
def ze_K (zr : Nat) (sh sort rel : Int32) : Prop := (sh = -1 ∧ sort = -1 ∧ rel = -1) ∨ (∃ b : Nat, b < zr ∧ b < 50 ∧ sh = nI b ∧ sort = -1 ∧ rel = nI b) ∨ (∃ s : Nat, s ≤ 4 ∧ sh = nI (50 + s) ∧ sort = nI s ∧ rel = -1)
def ze_Sh (zr : Nat) (SH : Nat → Int32) (MN : Nat → Nat) (IT : Nat → Int64) (d : Nat) (sort : Int32) (len : Nat) (rel : Int32) (It : Nat → Int64) : Prop :=
  len ≤ 60 ∧ MN d = len ∧ (∀ i, i < 60 → It i = IT (60 * d + i)) ∧ ze_K zr (SH d) sort rel ∧ (SH d = nI 50 → ∀ i, i < 60 → ze_by (IT (60 * d + i))) ∧ (SH d = nI 51 → ∀ i, i < 60 → zm_sh (IT (60 * d + i)))
/-- all six -/
def ze_SS (zr : Nat) (SH : Nat → Int32) (MN : Nat → Nat) (IT : Nat → Int64) (so : Nat → Int32) (ln : Nat → Nat) (re : Nat → Int32) (Its : Nat → Nat → Int64) : Prop :=
  (∀ i, MN i ≤ 60) ∧ ∀ d, d < 6 → ze_Sh zr SH MN IT d (so d) (ln d) (re d) (Its d)
variable {zr : Nat} {sh sort rel : Int32}
theorem ze_K_non (h : ze_K zr sh sort rel) : zh_non sort rel = decide (sh < 0) := by
  unfold zh_non
  rcases h with ⟨rfl, rfl, rfl⟩ | ⟨b, h1, h2, rfl, rfl, rfl⟩ | ⟨s, h1, rfl, rfl, rfl⟩
  · decide
  · have h3 : 0 ≤ nI b := nI_pos' (by omega)
    rw [show decide (¬ 0 ≤ nI b) = false from decide_eq_false (fun q => q h3), show decide (nI b < 0) = false from decide_eq_false (nI_pos (by omega)), Bool.and_false]
  · have h3 : 0 ≤ nI s := nI_pos' (by omega)
    rw [show decide (¬ 0 ≤ nI s) = false from decide_eq_false (fun q => q h3), show decide (nI (50 + s) < 0) = false from decide_eq_false (nI_pos (by omega)), Bool.false_and]
theorem ze_K_row (h : ze_K zr sh sort rel) : decide (¬ sort < 0) = decide (¬ sh < 50) := by
  rcases h with ⟨rfl, rfl, rfl⟩ | ⟨b, h1, h2, rfl, rfl, rfl⟩ | ⟨s, h1, rfl, rfl, rfl⟩
  · decide
  · have h3 : nI b < 50 := (nI_ltI (b := 50) (by omega) (by decide)).mpr h2
    rw [show decide (¬ (-1 : Int32) < 0) = false from by decide, show decide (¬ nI b < 50) = false from decide_eq_false (fun q => q h3)]
  · have h3 : ¬ nI (50 + s) < 50 := fun q => by have := (nI_ltI (b := 50) (by omega) (by decide)).mp q; omega
    rw [show decide (¬ nI s < 0) = true from decide_eq_true (nI_pos (by omega)), show decide (¬ nI (50 + s) < 50) = true from decide_eq_true h3]
theorem ze_K_sort (h : ze_K zr sh sort rel) (hr : ¬ sh < 50) : ∃ s : Nat, s ≤ 4 ∧ sh = nI (50 + s) ∧ sort = nI s := by
  rcases h with ⟨rfl, rfl, rfl⟩ | ⟨b, h1, h2, rfl, rfl, rfl⟩ | ⟨s, h1, rfl, rfl, rfl⟩
  · exact absurd hr (by decide)
  · exact absurd ((nI_ltI (b := 50) (by omega) (by decide)).mpr h2) hr
  · exact ⟨s, h1, rfl, rfl⟩
theorem ze_K_as {v : Int64} (h : ze_K zr sh sort rel) (hr : ¬ sh < 50) : zh_as sort v = zh_as (sh - nI 50) v := by
  obtain ⟨s, h1, rfl, rfl⟩ := ze_K_sort h hr
  rcases (by omega : s = 0 ∨ s = 1 ∨ s = 2 ∨ s = 3 ∨ s = 4) with e | e | e | e | e <;> subst e <;> rfl
theorem ze_K_is {k : Nat} (hk : k ≤ 4) (h : ze_K zr sh sort rel) : (decide (¬ sort < 0) && decide (sort = nI k)) = decide (sh = nI (50 + k)) := by
  rcases h with ⟨rfl, rfl, rfl⟩ | ⟨b, h1, h2, rfl, rfl, rfl⟩ | ⟨s, h1, rfl, rfl, rfl⟩
  · rw [decide_eq_false (by decide), Bool.false_and, decide_eq_false (fun q => by
      have h9 : (nI (50 + k)).toInt = (50 + k : Nat) := nI_toInt (by omega)
      rw [← q] at h9
      have h8 : (-1 : Int32).toInt = -1 := rfl
      omega)]
  · rw [decide_eq_false (by decide), Bool.false_and, decide_eq_false (fun q => by have := (nI_eq (by omega) (by omega)).mp q; omega)]
  · rw [decide_eq_true (nI_pos (by omega)), Bool.true_and]
    refine decide_eq_decide.mpr ?_
    rw [nI_eq (by omega) (by omega), nI_eq (by omega) (by omega)]
    omega
theorem ze_K_up {zr1 : Nat} (h : ze_K zr sh sort rel) (hz : zr ≤ zr1) : ze_K zr1 sh sort rel := by
  rcases h with h | ⟨b, h1, h2⟩ | h
  · exact Or.inl h
  · exact Or.inr (Or.inl ⟨b, by omega, h2⟩)
  · exact Or.inr (Or.inr h)
variable {SH : Nat → Int32} {MN : Nat → Nat} {IT : Nat → Int64}
theorem ze_SS_up {zr1 : Nat} {so : Nat → Int32} {ln : Nat → Nat} {re : Nat → Int32} {Its : Nat → Nat → Int64} (h : ze_SS zr SH MN IT so ln re Its) (hz : zr ≤ zr1) : ze_SS zr1 SH MN IT so ln re Its :=
  ⟨h.1, fun d hd => by
    obtain ⟨a, b, c, d9, e⟩ := h.2 d hd
    exact ⟨a, b, c, ze_K_up d9 hz, e⟩⟩
theorem ze_hsb {so : Nat → Int32} {ln : Nat → Nat} {re : Nat → Int32} {Its : Nat → Nat → Int64} (h : ze_SS zr SH MN IT so ln re Its) : ∀ d9, d9 < 6 → SH d9 = 51 → ∀ i9, i9 < 60 → zm_sh (IT (60 * d9 + i9)) := fun d9 h1 h2 => (h.2 d9 h1).2.2.2.2.2 h2
/-! Books. -/
theorem ze_fw {n : Nat} {m m' : Nat → Nat → Nat → Bool} {It It' : Nat → Int64} {len : Nat} (hm : ∀ p q t, p < n → q < n → m p q t = m' p q t) (hI : ∀ i, i < 60 → It i = It' i) (hl : len ≤ 60) : ∀ f k, zu_fw n m It len f k = zu_fw n m' It' len f k
  | 0, _ => rfl
  | f + 1, k => by
    have ho : ∀ t pq saw : Int32, zu_okw n m t pq saw = zu_okw n m' t pq saw := fun t pq saw => by
      unfold zu_okw
      cases h : zb_pair n pq with
      | false => rfl
      | true => rw [hm _ _ _ (zy_pq h).1 (zy_pq h).2.1]
    simp only [zu_fw]
    by_cases h1 : k < len
    · rw [if_pos h1, if_pos h1]
      by_cases h2 : k + 3 ≤ len
      · rw [if_pos h2, if_pos h2, hI k (by omega), hI (k + 1) (by omega), hI (k + 2) (by omega), ho, ze_fw hm hI hl f (k + 3)]
      · rw [if_neg h2, if_neg h2]
    · rw [if_neg h1, if_neg h1]
theorem ze_rb {x : Int32} (h : zb_w 6 x = true → ze_K zr (SH x.toInt.toNat) sort rel) : (zh_rb x sort rel = 0 ∧ zm_book SH x = 1 ∧ zb_w 6 x = true ∧ SH x.toInt.toNat = 51) ∨ (zh_rb x sort rel = zm_book SH x ∧ zm_book SH x < 0 ∧ ¬ zh_rb x sort rel = 0) := by
  unfold zh_rb zm_book
  by_cases hw : zb_w 6 x = true
  · have hK := h hw
    rw [if_pos hw, if_pos hw, ze_K_non hK, ze_K_is (k := 1) (by decide) hK]
    have e51 : nI (50 + 1) = 51 := rfl
    rw [e51]
    by_cases h0 : SH x.toInt.toNat < 0
    · rw [decide_eq_true h0, if_pos rfl, if_pos h0]
      exact Or.inr ⟨rfl, by decide, by decide⟩
    · rw [decide_eq_false h0, if_neg (c := false = true) (by decide), if_neg h0]
      by_cases h1 : SH x.toInt.toNat = 51
      · rw [decide_eq_true h1, if_pos rfl, if_pos h1]
        exact Or.inl ⟨rfl, rfl, hw, h1⟩
      · rw [decide_eq_false h1, if_neg (c := false = true) (by decide), if_neg h1]
        exact Or.inr ⟨rfl, by decide, by decide⟩
  · rw [if_neg hw, if_neg hw]
    exact Or.inr ⟨rfl, by decide, by decide⟩
theorem ze_judge {x f f' : Int32} (h : zb_w 6 x = true → ze_K zr (SH x.toInt.toNat) sort rel) (hf : zb_w 6 x = true → f = f') : zh_judge (zh_rb x sort rel) f = zm_judge (zm_book SH x) f' := by
  unfold zh_judge zm_judge
  rcases ze_rb h with ⟨h1, h2, h3, -⟩ | ⟨h1, h2, h3⟩
  · rw [h1, h2, if_pos rfl, if_neg (by decide), hf h3]
  · rw [if_neg h3, if_pos h2, h1]
/-! Bits counted. -/
theorem ze_64 {p : Nat → Prop} (h : ∀ x, x < 64 → ∀ y, y < 64 → p (64 * x + y)) : ∀ z, z < 4096 → p z := fun z hz => by
  have h1 := h (z / 64) (by omega) (z % 64) (by omega)
  rwa [show 64 * (z / 64) + z % 64 = z by omega] at h1
theorem ze_bc : ∀ z, z < 4096 → zj_bc (nI z) = nI (zs_cnt (fun s => z.testBit s) 12) := ze_64 (by decide +kernel)
theorem ze_lb : ∀ z, z < 4096 → z = 0 ∨ zj_lb (nI z) = zm_fs (fun s => z.testBit s) 12 := ze_64 (by decide +kernel)
theorem ze_zw_t (c : Nat → Bool) (k s : Nat) : (zw c k).testBit s = (decide (s < k) && c s) := by
  rw [Nat.testBit_eq_decide_div_mod_eq, zw_bit c]
  by_cases h : s < k ∧ c s = true
  · rw [if_pos h, decide_eq_true h.1, h.2]; rfl
  · rw [if_neg h]
    cases hc : c s with
    | false => rw [Bool.and_false]; rfl
    | true => rw [decide_eq_false (fun q => h ⟨q, hc⟩)]; rfl
theorem ze_cntx {b : Nat → Bool} {k : Nat} (h : ∀ s, k ≤ s → b s = false) : ∀ j, zs_cnt b (k + j) = zs_cnt b k ∧ zm_fs b (k + j) = zm_fs b k
  | 0 => ⟨rfl, rfl⟩
  | j + 1 => by
    have h1 := ze_cntx h j
    have h2 := h (k + j) (Nat.le_add_right _ _)
    refine ⟨?_, ?_⟩
    · rw [← h1.1]
      show zs_cnt b (k + j) + (if b (k + j) then 1 else 0) = _
      rw [h2]; rfl
    · rw [← h1.2]
      exact zm_fs_n h2
theorem ze_fsx {c c' : Nat → Bool} : ∀ k, (∀ s, s < k → c s = c' s) → zm_fs c k = zm_fs c' k
  | 0, _ => rfl
  | k + 1, h => by
    simp only [zm_fs]
    rw [h k (Nat.lt_succ_self k), zy_cnt k (fun t ht => h t (by omega)), ze_fsx k (fun t ht => h t (by omega))]
theorem ze_bits {c : Nat → Bool} {k : Nat} (hk : k ≤ 12) : zs_cnt c k = zs_cnt (fun s => (zw c k).testBit s) 12 ∧ zm_fs c k = zm_fs (fun s => (zw c k).testBit s) 12 := by
  have h1 := ze_cntx (b := fun s => (zw c k).testBit s) (k := k) (fun s hs => by
    show (zw c k).testBit s = false
    rw [ze_zw_t, decide_eq_false (by omega), Bool.false_and]) (12 - k)
  rw [show k + (12 - k) = 12 by omega] at h1
  have h2 : ∀ s, s < k → c s = (zw c k).testBit s := fun s hs => by rw [ze_zw_t, decide_eq_true hs, Bool.true_and]
  exact ⟨(zy_cnt k h2).trans h1.1.symm, (ze_fsx k h2).trans h1.2.symm⟩
theorem ze_4096 {c : Nat → Bool} {k : Nat} (hk : k ≤ 12) : zw c k < 4096 := Nat.lt_of_lt_of_le (zw_lt c k) (show 2 ^ k ≤ 2 ^ 12 from Nat.pow_le_pow_right (by decide) hk)
theorem ze_step {n : Nat} {x w8 part : Int32} {c c' : Nat → Bool} {k k' : Nat} (h : zb_w 6 x = true → ze_K zr (SH x.toInt.toNat) sort rel) (hc : zb_w 6 x = true → zb_w n w8 = true → k = k' ∧ k ≤ 12 ∧ ∀ s, s < k → c s = c' s) :
    zh_step n x w8 part (zh_rb x sort rel) (zw c k) = zm_step n (zm_book SH x) x w8 part (zs_cnt c' k') (zm_fs c' k') := by
  unfold zh_step zm_step
  by_cases h1 : (zb_w 6 x && (zb_w n w8 && zu_01 part)) = true
  · rw [if_pos h1, if_pos h1]
    have h2 := (Bool.and_eq_true _ _).mp h1
    obtain ⟨e, hk, hs⟩ := hc h2.1 ((Bool.and_eq_true _ _).mp h2.2).1
    subst e
    rcases ze_rb h with ⟨q1, q2, -, -⟩ | ⟨q1, q2, q3⟩
    · rw [q1, q2, if_pos rfl, if_neg (show ¬ (1 : Int32) < 0 by decide)]
      obtain ⟨b1, b2⟩ := ze_bits (c := c) hk
      rw [← zy_cnt k hs, ← ze_fsx k hs, b1, b2, ← ze_bc _ (ze_4096 hk)]
      by_cases hp : part = 0
      · rw [if_pos hp, if_pos hp]
      · rw [if_neg hp, if_neg hp]
        by_cases h0 : zw c k = 0
        · rw [if_pos h0, h0]; decide
        · rw [if_neg h0]
          exact (ze_lb _ (ze_4096 hk)).resolve_left h0
    · rw [if_neg q3, if_pos q2, q1]
  · rw [if_neg h1, if_neg h1]
theorem ze_oth0 : ∀ ph, ph < 12 → nI (2 ^ ph) ^^^ (-1) = nI (4294967295 - 2 ^ ph) := by decide +kernel
theorem ze_oth2 : ∀ ph, ph < 12 → ∀ x, x < 64 → ∀ y, y < 64 → ((64 * x + y) &&& (4294967295 - 2 ^ ph) = 0 ↔ (64 * x + y) = 0 ∨ (64 * x + y) = 2 ^ ph) := by decide +kernel
theorem ze_oth1 : ∀ ph, ph < 12 → ∀ z, z < 4096 → (z &&& (4294967295 - 2 ^ ph) = 0 ↔ z = 0 ∨ z = 2 ^ ph) := fun ph hp => ze_64 (p := fun z => (z &&& (4294967295 - 2 ^ ph) = 0 ↔ z = 0 ∨ z = 2 ^ ph)) (ze_oth2 ph hp)
theorem ze_osx {c : Nat → Bool} {h : Nat} : ∀ k, k ≤ 12 → (0 ≤ zm_os c h k ↔ ∃ s, s < k ∧ c s = true ∧ s ≠ h)
  | 0, _ => ⟨fun q => absurd (show (0 : Int32) ≤ -2 from q) (by decide), fun ⟨s, hs, _⟩ => absurd hs (Nat.not_lt_zero s)⟩
  | k + 1, hk => by
    have ih := ze_osx (c := c) (h := h) k (by omega)
    cases hc : c k with
    | false =>
      rw [zm_os_n hc, ih]
      constructor
      · rintro ⟨s, h1, h2⟩; exact ⟨s, by omega, h2⟩
      · rintro ⟨s, h1, h2, h3⟩
        refine ⟨s, ?_, h2, h3⟩
        rcases (by omega : s < k ∨ s = k) with e | e
        · exact e
        · rw [e, hc] at h2; exact absurd h2 (by decide)
    | true =>
      by_cases e : k = h
      · rw [zm_os_0 hc e, ih]
        constructor
        · rintro ⟨s, h1, h2⟩; exact ⟨s, by omega, h2⟩
        · rintro ⟨s, h1, h2, h3⟩
          exact ⟨s, by omega, h2, h3⟩
      · rw [zm_os_1 hc e]
        exact ⟨fun _ => ⟨k, Nat.lt_succ_self k, hc, e⟩, fun _ => nI_pos' (by omega)⟩
theorem ze_oth {c c' : Nat → Bool} {k h : Nat} (hk : k ≤ 12) (hh : h < 12) (hs : ∀ s, s < k → c s = c' s) : zh_oth (zw c k) h = decide (0 ≤ zm_os c' h k) := by
  unfold zh_oth
  refine decide_eq_decide.mpr ?_
  have hz := ze_4096 (c := c) hk
  rw [ze_oth0 h hh, zw_and, ze_osx k hk]
  have hle : zw c k &&& (4294967295 - 2 ^ h) < 2 ^ 31 := Nat.lt_of_le_of_lt Nat.and_le_left (by omega)
  have e0 : (0 : Int32) = nI 0 := rfl
  rw [e0, nI_eq hle (by decide), ze_oth1 h hh _ hz]
  constructor
  · intro q
    refine Decidable.byContradiction (fun q2 => q ?_)
    have hall : ∀ s, s < k → c s = true → s = h := fun s h1 h2 => Decidable.byContradiction (fun h3 => q2 ⟨s, h1, (hs s h1).symm.trans h2, h3⟩)
    cases hb : (zw c k).testBit h with
    | true =>
      refine Or.inr (Nat.eq_of_testBit_eq (fun i => ?_))
      rw [Nat.testBit_two_pow]
      by_cases e : h = i
      · subst e; rw [hb, decide_eq_true rfl]
      · rw [decide_eq_false e, ze_zw_t]
        cases hci : c i with
        | false => rw [Bool.and_false]
        | true =>
          rw [decide_eq_false (fun q9 => e (hall i q9 hci).symm), Bool.false_and]
    | false =>
      refine Or.inl (Nat.eq_of_testBit_eq (fun i => ?_))
      rw [Nat.zero_testBit, ze_zw_t]
      cases hci : c i with
      | false => rw [Bool.and_false]
      | true =>
        by_cases hi : i < k
        · have e := hall i hi hci
          subst e
          rw [ze_zw_t, decide_eq_true hi, hci] at hb
          exact absurd hb (by decide)
        · rw [decide_eq_false hi, Bool.false_and]
  · rintro ⟨s, h1, h2, h3⟩ q
    have hb : (zw c k).testBit s = true := by rw [ze_zw_t, decide_eq_true h1, hs s h1, h2]; rfl
    rcases q with q | q
    · rw [q, Nat.zero_testBit] at hb; exact absurd hb (by decide)
    · rw [q, Nat.testBit_two_pow, decide_eq_true_eq] at hb; exact h3 hb.symm
/-! What is put on shelves. -/
theorem ze_rowok (x y z : Int32) : zh_rowok x y z = zm_rowok x y z := by
  unfold zh_rowok zm_rowok zb_w
  have t0 : (0 : Int32).toInt = 0 := rfl
  have t4 : (4 : Int32).toInt = 4 := rfl
  have t60 : (60 : Int32).toInt = 60 := rfl
  rw [Bool.eq_iff_iff]
  simp only [Bool.and_eq_true, decide_eq_true_eq, zb_lt, zb_le, t0, t4, t60]
  omega
theorem ze_nneg (z : Int32) : decide (¬ z < 0) = decide (0 ≤ z) := decide_eq_decide.mpr (by
  have t0 : (0 : Int32).toInt = 0 := rfl
  rw [zb_lt, zb_le, t0]; omega)
theorem ze_row (x y z : Int32) : zh_row x y z = zm_row x y z := by
  unfold zh_row zm_row
  rw [ze_rowok]
  have h := ze_nneg z
  by_cases h1 : z < 0
  · rw [if_pos h1, if_neg (c := 0 ≤ z) (fun q => by rw [decide_eq_false (fun q2 => q2 h1), decide_eq_true q] at h; exact absurd h (by decide))]
  · rw [if_neg h1, if_pos (c := 0 ≤ z) (Decidable.byContradiction (fun q => by rw [decide_eq_true h1, decide_eq_false q] at h; exact absurd h (by decide)))]
theorem ze_keep (hz : zr ≤ 50) (x b : Int32) : zh_keep zr x b = zm_keep zr x b := by
  unfold zh_keep zm_keep zb_w
  have t1 : (-1 : Int32).toInt = -1 := rfl
  rw [Bool.eq_iff_iff]
  simp only [Bool.and_eq_true, Bool.or_eq_true, decide_eq_true_eq, zb_lt, ze_eqI, t1, nI_toInt (show zr < 2 ^ 31 by omega)]
  omega
theorem ze_re {x i : Int32} {len : Nat} (h : zb_w 6 x = true → ze_K zr (SH x.toInt.toNat) sort rel ∧ MN x.toInt.toNat = len ∧ len ≤ 60) : zh_re x i sort rel len = zm_re SH MN x i := by
  unfold zh_re zm_re
  by_cases hw : zb_w 6 x = true
  · obtain ⟨hK, hm, hl⟩ := h hw
    rw [if_pos hw, if_pos hw, ze_K_non hK, ze_K_row hK, hm]
    by_cases h0 : SH x.toInt.toNat < 0
    · rw [decide_eq_true h0, if_pos rfl, if_pos h0]
    · rw [decide_eq_false h0, if_neg (c := false = true) (by decide), if_neg h0]
      by_cases h1 : SH x.toInt.toNat < 50
      · rw [decide_eq_false (fun q => q h1), if_neg (c := false = true) (by decide), if_pos h1]
      · rw [decide_eq_true h1, if_pos rfl, if_neg h1]
        have e : zh_pl len i (nI 1) = zb_w len i := by
          by_cases c9 : i < 0
          · rw [zh_pl_neg c9, zb_w_neg c9]
          · obtain ⟨k, hk, rfl⟩ := nI_of c9
            rw [zh_pl_n hl hk (by decide), zb_w_n hk]
            exact decide_eq_decide.mpr (by omega)
        rw [e]
  · rw [if_neg hw, if_neg hw]
/-- a shelf that another call doesn't reach -/
theorem ze_SS_set {so : Nat → Int32} {ln : Nat → Nat} {re : Nat → Int32} {Its : Nat → Nat → Int64} {SH' : Nat → Int32} {MN' : Nat → Nat} {IT' : Nat → Int64} {k : Nat} {so1 re1 : Int32} {ln1 : Nat} {It1 : Nat → Int64} (h : ze_SS zr SH MN IT so ln re Its)
    (hm : ∀ i, MN' i ≤ 60) (ho : ∀ d, d < 6 → d ≠ k → SH' d = SH d ∧ MN' d = MN d ∧ ∀ i, i < 60 → IT' (60 * d + i) = IT (60 * d + i)) (h1 : ze_Sh zr SH' MN' IT' k so1 ln1 re1 It1) :
    ze_SS zr SH' MN' IT' (upd so k so1) (zs_up ln k ln1) (upd re k re1) (fun d => if d = k then It1 else Its d) := by
  refine ⟨hm, fun d hd => ?_⟩
  by_cases e : d = k
  · subst e
    have e1 : upd so d so1 d = so1 := if_pos rfl
    have e2 : zs_up ln d ln1 d = ln1 := if_pos rfl
    have e3 : upd re d re1 d = re1 := if_pos rfl
    rw [e1, e2, e3]
    show ze_Sh zr SH' MN' IT' d so1 ln1 re1 (if d = d then It1 else Its d)
    rw [if_pos rfl]
    exact h1
  · have e1 : upd so k so1 d = so d := if_neg e
    have e2 : zs_up ln k ln1 d = ln d := if_neg e
    have e3 : upd re k re1 d = re d := if_neg e
    rw [e1, e2, e3]
    show ze_Sh zr SH' MN' IT' d (so d) (ln d) (re d) (if d = k then It1 else Its d)
    rw [if_neg e]
    obtain ⟨q1, q2, q3⟩ := ho d hd e
    obtain ⟨a1, a2, a3, a4, a5, a6⟩ := h.2 d hd
    refine ⟨a1, by rw [q2]; exact a2, fun i hi => by rw [q3 i hi]; exact a3 i hi, by rw [q1]; exact a4, fun q i hi => ?_, fun q i hi => ?_⟩
    · rw [q1] at q; rw [q3 i hi]; exact a5 q i hi
    · rw [q1] at q; rw [q3 i hi]; exact a6 q i hi
theorem ze_SS_same {so : Nat → Int32} {ln : Nat → Nat} {re : Nat → Int32} {Its : Nat → Nat → Int64} {k : Nat} (h : ze_SS zr SH MN IT so ln re Its) : ze_SS zr SH MN IT (upd so k (so k)) (zs_up ln k (ln k)) (upd re k (re k)) (fun d => if d = k then Its k else Its d) := by
  have e1 : upd so k (so k) = so := funext fun d => by show (if d = k then so k else so d) = so d; split <;> simp_all
  have e2 : zs_up ln k (ln k) = ln := funext fun d => by show (if d = k then ln k else ln d) = ln d; split <;> simp_all
  have e3 : upd re k (re k) = re := funext fun d => by show (if d = k then re k else re d) = re d; split <;> simp_all
  have e4 : (fun d => if d = k then Its k else Its d) = Its := funext fun d => by split <;> simp_all
  rw [e1, e2, e3, e4]; exact h
end EF3
