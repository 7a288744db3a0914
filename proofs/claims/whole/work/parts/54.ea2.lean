/-! Whether sights of any steps lead there. -/
def zy_c7 (b : Nat) : Nat := b % 2 + b / 2 % 2 + b / 4 % 2 + b / 8 % 2 + b / 16 % 2 + b / 32 % 2 + b / 64 % 2
theorem zy_c7_up : ∀ b, b < 128 → ∀ c, c < 128 → b &&& c = b → b ≠ c → zy_c7 b < zy_c7 c := by decide +kernel
theorem zy_bes_and (b D K : Nat) : b &&& zw_bes b D K = b := by
  apply Nat.eq_of_testBit_eq
  intro i
  rw [Nat.testBit_and]
  cases h : b.testBit i
  · rfl
  · rw [zx_bes_in h]; rfl
theorem zy_rch_fix {D K : Nat} : ∀ f b, b < 2 ^ 7 → 7 ≤ f + zy_c7 b → zw_bes (zw_rch D K f b) D K = zw_rch D K f b
  | 0, b, hb, h => by
    show zw_bes b D K = b
    refine Decidable.byContradiction (fun e => ?_)
    have h1 := zy_c7_up b hb (zw_bes b D K) (zw_bes_lt hb K) (zy_bes_and b D K) (fun q => e q.symm)
    have h2 : zy_c7 (zw_bes b D K) ≤ 7 := by unfold zy_c7; omega
    omega
  | f + 1, b, hb, h => by
    simp only [zw_rch]
    by_cases e : zw_bes b D K = b
    · rw [if_pos e]; exact e
    · rw [if_neg e]
      have h1 := zy_c7_up b hb (zw_bes b D K) (zw_bes_lt hb K) (zy_bes_and b D K) (fun q => e q.symm)
      exact zy_rch_fix f _ (zw_bes_lt hb K) (by omega)
theorem zy_rch_in {D K w : Nat} : ∀ f b, b.testBit w = true → (zw_rch D K f b).testBit w = true
  | 0, _, h => h
  | f + 1, b, h => by
    simp only [zw_rch]; split
    · exact h
    · exact zy_rch_in f _ (zx_bes_in h K)
theorem zy_c7_1 : ∀ p, p < 7 → zy_c7 (2 ^ p) = 1 := by decide
theorem zy_rch_cl {D K p : Nat} (hp : p < 7) : zw_bes (zw_rch D K 7 (2 ^ p)) D K = zw_rch D K 7 (2 ^ p) := zy_rch_fix 7 _ (zw_p2 hp) (by rw [zy_c7_1 p hp]; decide)
theorem zy_led {n : Nat} {s : Nat → Nat → Nat → Bool} {wd : Nat → Nat} (h : zy_ok n s wd) {E : Nat} (hE : ∀ t k, k < n * (n - 1) / 2 → wd t / 2 ^ k % 2 ≠ 0 → E / 2 ^ k % 2 ≠ 0) {p q t m : Nat} (hp : p < n) (hat : zv_at wd (n * (n - 1) / 2) p q t m = true) : decide (zw_rch E (n * (n - 1) / 2) 7 (2 ^ p) &&& 2 ^ q ≠ 0) = true := by
  have hn := h.1
  have hfix := zy_rch_cl (D := E) (K := n * (n - 1) / 2) (p := p) (by omega)
  have key : ∀ i w, (zv_hv wd (n * (n - 1) / 2) p t i).testBit w = true → (zw_rch E (n * (n - 1) / 2) 7 (2 ^ p)).testBit w = true := by
    intro i
    induction i with
    | zero => intro w hw; exact zy_rch_in 7 _ hw
    | succ i ih =>
      intro w hw
      rcases zx_bes _ hw with h2 | ⟨k, h2, h3, h4⟩
      · exact ih w h2
      · have h5 := hE (t + i) k h2 (by omega)
        rw [← hfix]
        rcases h4 with ⟨e, hb⟩ | ⟨e, hb⟩
        · exact zx_bes_k (by omega) ((zx_both _ _).mpr (Or.inr (ih _ hb))) (by rw [zx_bb, decide_eq_true e]; rfl) _ h2
        · exact zx_bes_k (by omega) ((zx_both _ _).mpr (Or.inl (ih _ hb))) (by rw [zx_bb, decide_eq_true e]; exact Bool.or_true _) _ h2
  have h1 := (zx_and _ _).mp (of_decide_eq_true hat)
  exact decide_eq_true ((zx_and _ _).mpr (key m q h1))
theorem zw_any_t {s : Nat → Bool} {k : Nat} (h : s k = true) : ∀ {K : Nat}, k < K → zw_any s K = true
  | 0, q => absurd q (Nat.not_lt_zero k)
  | K + 1, q => by
    simp only [zw_any]
    by_cases e : k = K
    · rw [← e, h]; exact Bool.or_true _
    · rw [zw_any_t h (K := K) (by omega)]; rfl
section
variable {tl : Bool} {ev : (Nat → Int32) → Int32} {P S R : Nat → Nat} {hide n : Nat}
theorem zy_wdb {t k : Nat} (hn : n ≤ 7) (hk : k < n * (n - 1) / 2) : zu_wd tl ev P S R hide n t / 2 ^ k % 2 ≠ 0 ↔ zs_meet tl ev P S R hide (zk_les k) (zk_gre k) t = true := by
  have h21 := (zw_tri_gre hn hk).1
  unfold zu_wd
  rw [zw_bit, zm_sT h21]
  constructor
  · intro h
    refine Decidable.byContradiction (fun q => h ?_)
    rw [if_neg (fun q2 => q q2.2)]
  · intro h
    rw [if_pos ⟨hk, h⟩]; decide
theorem zy_evb (hW : zs_W n P S) {t k : Nat} (hk : k < n * (n - 1) / 2) (h : zu_wd tl ev P S R hide n t / 2 ^ k % 2 ≠ 0) : zw (zw_ev tl ev P S R hide) (n * (n - 1) / 2) / 2 ^ k % 2 ≠ 0 := by
  have hn := hW.1
  have h1 := zw_tri_gre hn hk
  have h2 := zk_les_gre h1.1
  have hm := (zy_wdb hn hk).mp h
  have w1 := hW.2 (zk_les k) (by omega)
  have w2 := hW.2 (zk_gre k) h1.2
  have hl := zs_lcm_pos w1.1 w2.1
  have he : zw_ev tl ev P S R hide k = true := by
    unfold zw_ev
    refine zw_any_t (k := t % zs_lcm (P (zk_les k)) (P (zk_gre k))) ?_ (Nat.mod_lt _ hl)
    show zs_sT tl ev P S R hide _ k = true
    rw [zm_sT h1.1, zm_meet_mod h2]; exact hm
  rw [zw_bit, if_pos ⟨hk, he⟩]; decide
end
section
variable {n : Nat} {s : Nat → Nat → Nat → Bool} {wd : Nat → Nat}
/-- the fewest steps, asked for only where sights of any steps lead -/
theorem zy_soon (h : zy_ok n s wd) {L : Bool} {p q t : Nat} (hp : p < n) (hq : q < n) (hpq : p ≠ q) (hL : ∀ m, zv_at wd (n * (n - 1) / 2) p q t m = true → L = true) : (if L = true then zv_few wd (n * (n - 1) / 2) p q t else (-2)) = if zm_bk 1 s n q t 600 p < 1000000 then nI (zm_bk 1 s n q t 600 p) else (-2) := by
  rw [← zy_few h hp hq hpq]
  by_cases e : L = true
  · rw [if_pos e]
  · rw [if_neg e]
    rcases zc_fst_c (s := zv_at wd (n * (n - 1) / 2) p q t) 600 1 with h1 | ⟨m, h1, h2, h3, h4, h5⟩
    · exact h1.symm
    · exact absurd (hL m h4) e
/-! The fewest hands. -/
theorem zy_rn_ex (h : zy_ok n s wd) {O B : Nat → Nat} {hand t i : Nat} (hi : i < n) : B i ≤ zv_rn O hand (wd t) B (n * (n - 1) / 2) i ∨ ∃ o, o < n ∧ o ≠ i ∧ s i o t = true ∧ O o + hand ≤ zv_rn O hand (wd t) B (n * (n - 1) / 2) i := by
  refine Classical.byContradiction (fun hc => ?_)
  have h1 := (zy_rn h (O := O) (B := B) (hand := hand) (t := t) (x := zv_rn O hand (wd t) B (n * (n - 1) / 2) i + 1) hi).mpr ⟨by
    rcases Nat.lt_or_ge (zv_rn O hand (wd t) B (n * (n - 1) / 2) i) (B i) with h2 | h2
    · exact h2
    · exact absurd (Or.inl h2) hc, fun o ho how hso => by
    rcases Nat.lt_or_ge (zv_rn O hand (wd t) B (n * (n - 1) / 2) i) (O o + hand) with h2 | h2
    · exact h2
    · exact absurd (Or.inr ⟨o, ho, how, hso, h2⟩) hc⟩
  omega
theorem zy_bk_q {a q t : Nat} : ∀ d, zm_bk a s n q t d q = 0
  | 0 => if_pos rfl
  | d + 1 => zm_bk_y rfl
theorem zy_bk_st {a q t d w : Nat} : zm_bk a s n q t (d + 1) w ≤ zm_bk a s n q t d w + a := by
  by_cases e : w = q
  · rw [zm_bk_y e]; exact Nat.zero_le _
  · rw [zm_bk_n e]
    have := zm_fo_le (fun o9 => decide (o9 ≠ w) && s w o9 (t + (599 - d))) (zm_bk a s n q t d) (zm_bk a s n q t d w + a) n
    omega
theorem zy_bk_go {a q t d w o : Nat} (ho : o < n) (how : o ≠ w) (hso : s w o (t + (599 - d)) = true) : zm_bk a s n q t (d + 1) w ≤ zm_bk a s n q t d o + 1 := by
  by_cases e : w = q
  · rw [zm_bk_y e]; exact Nat.zero_le _
  · rw [zm_bk_n e]
    have := ((zm_fo_x (c := fun o9 => decide (o9 ≠ w) && s w o9 (t + (599 - d))) (v := zm_bk a s n q t d) (y := zm_bk a s n q t d w + a) n).mp (Nat.le_refl _)).2 o ho (by simp only [Bool.and_eq_true, decide_eq_true_eq]; exact ⟨how, hso⟩)
    omega
theorem zy_bk_ex {a q t d w : Nat} (hw : w ≠ q) (hl : zm_bk a s n q t (d + 1) w < 1000000) : zm_bk a s n q t d w + a ≤ zm_bk a s n q t (d + 1) w ∨ ∃ o, o < n ∧ o ≠ w ∧ s w o (t + (599 - d)) = true ∧ zm_bk a s n q t d o + 1 ≤ zm_bk a s n q t (d + 1) w := by
  rw [zm_bk_n hw] at hl ⊢
  rcases zm_fo_ex (c := fun o9 => decide (o9 ≠ w) && s w o9 (t + (599 - d))) (v := zm_bk a s n q t d) (x := zm_bk a s n q t d w + a) n with e | ⟨o, h1, h2, h3⟩
  · exact Or.inl (by omega)
  · simp only [Bool.and_eq_true, decide_eq_true_eq] at h2
    exact Or.inr ⟨o, h1, h2.1, h2.2, by omega⟩
theorem zy_O_step (h : zy_ok n s wd) {p q t k y : Nat} (hk : k < 600) (hy : y < 1000000) : (∃ x, x < n ∧ zv_O wd (n * (n - 1) / 2) p t k x + zm_bk 0 s n q t (600 - k) x ≤ y) ↔ (∃ x, x < n ∧ zv_O wd (n * (n - 1) / 2) p t (k + 1) x + zm_bk 0 s n q t (600 - (k + 1)) x ≤ y) := by
  obtain ⟨d, hd⟩ : ∃ d, 600 - k = d + 1 := ⟨599 - k, by omega⟩
  have hkd : 599 - d = k := by omega
  rw [hd, show 600 - (k + 1) = d by omega]
  have hO : ∀ x, zv_O wd (n * (n - 1) / 2) p t (k + 1) x = zv_rn (zv_O wd (n * (n - 1) / 2) p t k) 1 (wd (t + k)) (zv_O wd (n * (n - 1) / 2) p t k) (n * (n - 1) / 2) x := fun _ => rfl
  constructor
  · rintro ⟨x, hx, h1⟩
    have h9 := ((zy_rn h (O := zv_O wd (n * (n - 1) / 2) p t k) (B := zv_O wd (n * (n - 1) / 2) p t k) (hand := 1) (t := t + k) hx).mp (Nat.le_refl _)).1
    rw [← hO] at h9
    by_cases e : x = q
    · exact ⟨x, hx, by rw [e, zy_bk_q] at h1 ⊢; rw [e] at h9; omega⟩
    · rcases zy_bk_ex e (show zm_bk 0 s n q t (d + 1) x < 1000000 by omega) with h2 | ⟨o, h2, h3, h4, h5⟩
      · exact ⟨x, hx, by omega⟩
      · rw [hkd] at h4
        have h8 := ((zy_rn h (O := zv_O wd (n * (n - 1) / 2) p t k) (B := zv_O wd (n * (n - 1) / 2) p t k) (hand := 1) (t := t + k) h2).mp (Nat.le_refl _)).2 x hx (fun q9 => h3 q9.symm) (by rw [h.2.1]; exact h4)
        rw [← hO] at h8
        exact ⟨o, h2, by omega⟩
  · rintro ⟨x, hx, h1⟩
    rcases zy_rn_ex h (O := zv_O wd (n * (n - 1) / 2) p t k) (B := zv_O wd (n * (n - 1) / 2) p t k) (hand := 1) (t := t + k) hx with h2 | ⟨o, h2, h3, h4, h5⟩
    · rw [← hO] at h2
      have h3 := zy_bk_st (a := 0) (s := s) (n := n) (q := q) (t := t) (d := d) (w := x)
      exact ⟨x, hx, by omega⟩
    · rw [← hO] at h5
      have h6 := zy_bk_go (a := 0) (s := s) (n := n) (q := q) (t := t) (d := d) (w := o) hx (fun q9 => h3 q9.symm) (by rw [hkd, h.2.1]; exact h4)
      exact ⟨o, h2, by omega⟩
theorem zy_O_all (h : zy_ok n s wd) {p q t y : Nat} (hy : y < 1000000) : ∀ k, k ≤ 600 → ((∃ x, x < n ∧ zv_O wd (n * (n - 1) / 2) p t 0 x + zm_bk 0 s n q t 600 x ≤ y) ↔ (∃ x, x < n ∧ zv_O wd (n * (n - 1) / 2) p t k x + zm_bk 0 s n q t (600 - k) x ≤ y))
  | 0, _ => Iff.rfl
  | k + 1, hk => (zy_O_all h hy k (by omega)).trans (zy_O_step h (by omega) hy)
theorem zy_O (h : zy_ok n s wd) {p q t y : Nat} (hp : p < n) (hq : q < n) (hy : y < 1000000) : zm_bk 0 s n q t 600 p ≤ y ↔ zv_O wd (n * (n - 1) / 2) p t 600 q ≤ y := by
  have h1 := zy_O_all h (p := p) (q := q) (t := t) hy 600 (Nat.le_refl 600)
  constructor
  · intro h2
    obtain ⟨x, hx, h3⟩ := h1.mp ⟨p, hp, by rw [show zv_O wd (n * (n - 1) / 2) p t 0 p = 0 from if_pos rfl]; omega⟩
    by_cases e : x = q
    · rw [e] at h3; omega
    · rw [show zm_bk 0 s n q t (600 - 600) x = 1000000 from if_neg e] at h3; omega
  · intro h2
    obtain ⟨x, hx, h3⟩ := h1.mpr ⟨q, hq, by rw [zy_bk_q]; omega⟩
    by_cases e : x = p
    · rw [e] at h3; omega
    · rw [show zv_O wd (n * (n - 1) / 2) p t 0 x = 1000000000 from if_neg e] at h3; omega
theorem zv_O_few {p t : Nat} (hn : n ≤ 7) : ∀ i, zv_fewer n (zv_O wd (n * (n - 1) / 2) p t i)
  | 0 => by
    intro i hi hlt
    by_cases e : i = p
    · exact Nat.le_trans (Nat.le_of_eq (if_pos e)) (Nat.zero_le _)
    · have h1 : zv_O wd (n * (n - 1) / 2) p t 0 i = 1000000000 := if_neg e
      omega
  | i + 1 => zv_fewer_s hn (zv_O_few hn i) (fun x => zv_O_le _ _ _ _ x i)
theorem zy_hands (h : zy_ok n s wd) {p q t : Nat} (hp : p < n) (hq : q < n) : zv_hands wd (n * (n - 1) / 2) p q t = if zm_bk 0 s n q t 600 p < 1000000 then nI (zm_bk 0 s n q t 600 p) else (-2) := by
  unfold zv_hands
  have hn := h.1
  by_cases e : zm_bk 0 s n q t 600 p < 1000000
  · have h1 := (zy_O h hp hq e).mp (Nat.le_refl _)
    have h2 := (zy_O h hp hq (y := zv_O wd (n * (n - 1) / 2) p t 600 q) (by omega)).mpr (Nat.le_refl _)
    rw [if_pos e, if_pos (by omega), show zm_bk 0 s n q t 600 p = zv_O wd (n * (n - 1) / 2) p t 600 q by omega]
  · rw [if_neg e, if_neg (fun q9 => ?_)]
    have h1 := zv_fewer_n (zv_O_few (wd := wd) (p := p) (t := t) hn 600) hq q9
    have h2 := (zy_O h hp hq (y := zv_O wd (n * (n - 1) / 2) p t 600 q) (by omega)).mpr (Nat.le_refl _)
    omega
theorem zy_bk01 {q t : Nat} : ∀ d, d ≤ 600 → ∀ w, zm_bk 0 s n q t d w < 1000000 → zm_bk 1 s n q t d w < 1000000
  | 0, _, _, h => h
  | d + 1, hd, w, h => by
    by_cases e : w = q
    · rw [zm_bk_y e]; decide
    · rcases zy_bk_ex e h with h2 | ⟨o, h2, h3, h4, h5⟩
      · have h6 := zy_bk01 (q := q) (t := t) d (by omega) w (by omega)
        have h7 := (zm_bk_d (s := s) (n := n) (q := q) (t := t) d w).resolve_left (by omega)
        have h8 := zy_bk_st (a := 1) (s := s) (n := n) (q := q) (t := t) (d := d) (w := w)
        omega
      · have h6 := zy_bk01 (q := q) (t := t) d (by omega) o (by omega)
        have h7 := (zm_bk_d (s := s) (n := n) (q := q) (t := t) d o).resolve_left (by omega)
        have h8 := zy_bk_go (a := 1) (s := s) (n := n) (q := q) (t := t) (d := d) (w := w) h2 h3 h4
        omega
theorem zy_handsL (h : zy_ok n s wd) {L : Bool} {p q t : Nat} (hp : p < n) (hq : q < n) (hL : ∀ m, zv_at wd (n * (n - 1) / 2) p q t m = true → L = true) : (if L = true then zv_hands wd (n * (n - 1) / 2) p q t else (-2)) = if zm_bk 0 s n q t 600 p < 1000000 then nI (zm_bk 0 s n q t 600 p) else (-2) := by
  rw [← zy_hands h hp hq]
  by_cases e : L = true
  · rw [if_pos e]
  · rw [if_neg e, zy_hands h hp hq, if_neg (fun q9 => ?_)]
    have h1 := zy_bk01 600 (Nat.le_refl 600) p q9
    have h2 := (zm_bk_d (s := s) (n := n) (q := q) (t := t) 600 p).resolve_left (by omega)
    exact e (hL _ ((zy_at h hp hq).mpr ((zy_bk (Nat.le_refl 600) h2).mp (Nat.le_refl _))))
/-- hands on the way are few -/
theorem zy_fw_lt (h : zy_ok n s wd) {p q t : Nat} (hp : p < n) (hq : q < n) (hb : zm_bk 1 s n q t 600 p ≤ 600) : zm_fw s n q t (zm_bk 1 s n q t 600 p) (zm_bk 1 s n q t 600 p) p = zu_hnd wd (n * (n - 1) / 2) p q t (zm_bk 1 s n q t 600 p) ∧ zu_hnd wd (n * (n - 1) / 2) p q t (zm_bk 1 s n q t 600 p) < n := by
  have hn := h.1
  have h1 : zv_at wd (n * (n - 1) / 2) p q t (zm_bk 1 s n q t 600 p) = true := (zy_at h hp hq).mpr ((zy_bk (Nat.le_refl 600) hb).mp (Nat.le_refl _))
  have h2 := zx_meet hn hp hq h1
  have h3 := zy_D h (q := q) (t := t) (sn := zm_bk 1 s n q t 600 p) _ (Nat.le_refl _) p hp
  unfold zu_hnd
  exact ⟨by omega, h2⟩
/-! Waits. -/
theorem zy_A (h : zy_ok n s wd) {q last : Nat} (hl : last < 100000) : ∀ d, d ≤ last → ∀ j, j ≤ d → ∀ w, w < n → (zv_A wd (n * (n - 1) / 2) q last (d + 1) w ≤ last - d + (j + 1) ↔ zy_r s n q (j + 1) (last - d) w) := by
  intro d
  induction d with
  | zero =>
    intro _ j hj w hw
    obtain rfl : j = 0 := by omega
    have hA : ∀ o, zs_up (zv_A wd (n * (n - 1) / 2) q last 0) q (last - 0 + 1) o ≤ last - 0 + (0 + 1) ↔ o = q := fun o => by
      simp only [zs_up, zv_A]
      by_cases e : o = q
      · rw [if_pos e]; exact ⟨fun _ => e, fun _ => by omega⟩
      · rw [if_neg e]; exact ⟨fun h9 => by omega, fun h9 => absurd h9 e⟩
    constructor
    · intro h1
      rcases zy_rn_ex h (O := zs_up (zv_A wd (n * (n - 1) / 2) q last 0) q (last - 0 + 1)) (B := zs_up (zv_A wd (n * (n - 1) / 2) q last 0) q (last - 0 + 1)) (hand := 0) (t := last - 0) hw with h2 | ⟨o, h2, h3, h4, h5⟩
      · exact Or.inl ((hA w).mp (Nat.le_trans h2 h1))
      · exact Or.inr ⟨o, h2, h3, h4, (hA o).mp (Nat.le_trans h5 h1)⟩
    · intro h1
      have h9 := (zy_rn h (O := zs_up (zv_A wd (n * (n - 1) / 2) q last 0) q (last - 0 + 1)) (B := zs_up (zv_A wd (n * (n - 1) / 2) q last 0) q (last - 0 + 1)) (hand := 0) (t := last - 0) hw).mp (Nat.le_refl _)
      rcases h1 with h2 | ⟨o, h2, h3, h4, h5⟩
      · exact Nat.le_trans h9.1 ((hA w).mpr h2)
      · exact Nat.le_trans (h9.2 o h2 h3 h4) ((hA o).mpr h5)
  | succ d ih =>
    intro hd j hj w hw
    have ih := ih (by omega)
    have hu : last - d = last - (d + 1) + 1 := by omega
    rw [hu] at ih
    have hA : ∀ o, o < n → (zs_up (zv_A wd (n * (n - 1) / 2) q last (d + 1)) q (last - (d + 1) + 1) o ≤ last - (d + 1) + (j + 1) ↔ zy_r s n q j (last - (d + 1) + 1) o) := fun o ho => by
      simp only [zs_up]
      by_cases e : o = q
      · rw [if_pos e, e]; exact ⟨fun _ => zy_r_q j _, fun _ => by omega⟩
      · rw [if_neg e]
        cases j with
        | zero =>
          have h9 := zv_A_ge (wd := wd) (K := n * (n - 1) / 2) (q := q) hl (d + 1) (by omega) o
          exact ⟨fun h8 => by omega, fun h8 => absurd h8 e⟩
        | succ j =>
          rw [← ih j (by omega) o ho]
          constructor <;> intro h8 <;> omega
    constructor
    · intro h1
      rcases zy_rn_ex h (O := zs_up (zv_A wd (n * (n - 1) / 2) q last (d + 1)) q (last - (d + 1) + 1)) (B := zs_up (zv_A wd (n * (n - 1) / 2) q last (d + 1)) q (last - (d + 1) + 1)) (hand := 0) (t := last - (d + 1)) hw with h2 | ⟨o, h2, h3, h4, h5⟩
      · exact Or.inl ((hA w hw).mp (Nat.le_trans h2 h1))
      · exact Or.inr ⟨o, h2, h3, h4, (hA o h2).mp (Nat.le_trans h5 h1)⟩
    · intro h1
      have h9 := (zy_rn h (O := zs_up (zv_A wd (n * (n - 1) / 2) q last (d + 1)) q (last - (d + 1) + 1)) (B := zs_up (zv_A wd (n * (n - 1) / 2) q last (d + 1)) q (last - (d + 1) + 1)) (hand := 0) (t := last - (d + 1)) hw).mp (Nat.le_refl _)
      rcases h1 with h2 | ⟨o, h2, h3, h4, h5⟩
      · exact Nat.le_trans h9.1 ((hA w hw).mpr h2)
      · exact Nat.le_trans (h9.2 o h2 h3 h4) ((hA o h2).mpr h5)
theorem zy_wt (h : zy_ok n s wd) {p q r t : Nat} (hp : p < n) (hpq : p ≠ q) (hr : r ≤ 30000) (ht : t < r) :
    (zv_wt wd (n * (n - 1) / 2) p q (r + 600 - 1) t ≤ 600 → zm_sf s n q (r + 600) (r + 601 - t) p = zv_wt wd (n * (n - 1) / 2) p q (r + 600 - 1) t) ∧ (600 < zv_wt wd (n * (n - 1) / 2) p q (r + 600 - 1) t → 600 < zm_sf s n q (r + 600) (r + 601 - t) p) := by
  have h1 : ∀ j, j ≤ 600 → (zv_wt wd (n * (n - 1) / 2) p q (r + 600 - 1) t ≤ j + 1 ↔ zy_r s n q (j + 1) t p) := fun j hj => by
    have h9 := zy_A h (q := q) (last := r + 600 - 1) (by omega) (r + 600 - 1 - t) (by omega) j (by omega) p hp
    rw [show r + 600 - 1 - (r + 600 - 1 - t) = t by omega] at h9
    rw [← h9]
    unfold zv_wt
    rw [show r + 600 - 1 + 1 - t = r + 600 - 1 - t + 1 by omega]
    omega
  have h2 : ∀ j, j ≤ 602 → (zm_sf s n q (r + 600) (r + 601 - t) p ≤ j ↔ zy_r s n q j t p) := fun j hj => by
    have h9 := zy_sf (s := s) (n := n) (q := q) (l := r + 600) (by omega) (d := r + 601 - t) (j := j) (w := p) (by omega) (by omega)
    rw [show r + 600 + 1 - (r + 601 - t) = t by omega] at h9
    exact h9
  have h3 : 1 ≤ zv_wt wd (n * (n - 1) / 2) p q (r + 600 - 1) t := zv_wt_ge (by omega) (by omega)
  have h4 : ¬ zm_sf s n q (r + 600) (r + 601 - t) p ≤ 0 := fun q9 => hpq ((h2 0 (by omega)).mp q9)
  have h5 : ∀ j, j ≤ 600 → (zv_wt wd (n * (n - 1) / 2) p q (r + 600 - 1) t ≤ j + 1 ↔ zm_sf s n q (r + 600) (r + 601 - t) p ≤ j + 1) := fun j hj => (h1 j hj).trans (h2 (j + 1) (by omega)).symm
  obtain ⟨a, ha⟩ : ∃ a, a = zv_wt wd (n * (n - 1) / 2) p q (r + 600 - 1) t := ⟨_, rfl⟩
  obtain ⟨b, hb⟩ : ∃ b, b = zm_sf s n q (r + 600) (r + 601 - t) p := ⟨_, rfl⟩
  rw [← ha] at h3 h5 ⊢
  rw [← hb] at h4 h5 ⊢
  constructor
  · intro h6
    have h7 := (h5 (a - 1) (by omega)).mp (by omega)
    have h8 := (h5 (b - 1) (by omega)).mpr (by omega)
    omega
  · intro h6
    refine Nat.lt_of_not_le (fun h7 => ?_)
    have h8 := (h5 (b - 1) (by omega)).mpr (by omega)
    omega
theorem zy_mo_lo {p q r : Nat} {x : Int32} : ∀ d, d ≤ 601 → zm_mo s n p q r d = 0 ∧ zm_mf s n p q r x d = x
  | 0, _ => ⟨rfl, rfl⟩
  | d + 1, hd => by
    have ih := zy_mo_lo (p := p) (q := q) (r := r) (x := x) d (by omega)
    have hc : ¬ (r + 600 - d < r ∧ zm_mo s n p q r d ≤ zm_sf s n q (r + 600) (d + 1) p) := fun h => by omega
    exact ⟨(if_neg hc).trans ih.1, (if_neg hc).trans ih.2⟩
theorem zy_mo_hi {p q r : Nat} {x : Int32} {wt : Nat → Nat} (hwt : ∀ t, t < r → zm_sf s n q (r + 600) (r + 601 - t) p = wt t) : ∀ e, e ≤ r → zm_mo s n p q r (601 + e) = (zv_Lg wt r e).1 ∧ zm_mf s n p q r x (601 + e) = if e = 0 then x else nI (zv_Lg wt r e).2
  | 0, _ => zy_mo_lo 601 (Nat.le_refl 601)
  | e + 1, he => by
    have ih := zy_mo_hi (x := x) hwt e (by omega)
    have hs := hwt (r - 1 - e) (by omega)
    rw [show r + 601 - (r - 1 - e) = 601 + e + 1 by omega] at hs
    have h1 : zm_mo s n p q r (601 + e + 1) = if r + 600 - (601 + e) < r ∧ zm_mo s n p q r (601 + e) ≤ zm_sf s n q (r + 600) (601 + e + 1) p then zm_sf s n q (r + 600) (601 + e + 1) p else zm_mo s n p q r (601 + e) := rfl
    have h2 : zm_mf s n p q r x (601 + e + 1) = if r + 600 - (601 + e) < r ∧ zm_mo s n p q r (601 + e) ≤ zm_sf s n q (r + 600) (601 + e + 1) p then nI (r + 600 - (601 + e)) else zm_mf s n p q r x (601 + e) := rfl
    rw [show 601 + (e + 1) = 601 + e + 1 from rfl, h1, h2, hs, ih.1, ih.2, if_neg (Nat.succ_ne_zero e)]
    simp only [zv_Lg]
    by_cases hc : (zv_Lg wt r e).1 ≤ wt (r - 1 - e)
    · rw [if_pos hc, if_pos ⟨by omega, hc⟩, if_pos ⟨by omega, hc⟩]
      exact ⟨rfl, congrArg nI (by omega)⟩
    · rw [if_neg hc, if_neg (fun q9 => hc q9.2), if_neg (fun q9 => hc q9.2)]
      refine ⟨rfl, if_neg (fun q9 => hc ?_)⟩
      subst q9; exact Nat.zero_le _
theorem zy_mo_ge {p q r t : Nat} (ht : t < r) : ∀ d, r + 601 - t ≤ d → zm_sf s n q (r + 600) (r + 601 - t) p ≤ zm_mo s n p q r d
  | 0, h => by omega
  | d + 1, h => by
    simp only [zm_mo]
    by_cases e : r + 601 - t = d + 1
    · rw [e]; split
      · exact Nat.le_refl _
      · rename_i hc
        exact Nat.le_of_lt (Nat.lt_of_not_le (fun q9 => hc ⟨by omega, q9⟩))
    · have ih := zy_mo_ge (p := p) (q := q) ht d (by omega)
      split
      · rename_i hc; exact Nat.le_trans ih hc.2
      · exact ih
theorem zw_all_ex {s9 : Nat → Bool} : ∀ K, zw_all s9 K = false → ∃ k, k < K ∧ s9 k = false
  | 0, h => absurd (show true = false from h) (by decide)
  | K + 1, h => by
    simp only [zw_all] at h
    cases h1 : s9 K
    · exact ⟨K, Nat.lt_succ_self K, h1⟩
    · rw [h1, Bool.and_true] at h
      obtain ⟨k, h2, h3⟩ := zw_all_ex K h
      exact ⟨k, by omega, h3⟩
theorem zw_all_un {s9 : Nat → Bool} : ∀ K, zw_all s9 K = true → ∀ k, k < K → s9 k = true
  | 0, _, k, h => absurd h (Nat.not_lt_zero k)
  | K + 1, h, k, hk => by
    simp only [zw_all, Bool.and_eq_true] at h
    by_cases e : k = K
    · rw [e]; exact h.2
    · exact zw_all_un K h.1 k (by omega)
theorem zy_wait (h : zy_ok n s wd) {p q r : Nat} {x : Int32} (hp : p < n) (hpq : p ≠ q) (hr : r ≤ 30000) (hr1 : 1 ≤ r) :
    (zv_ok (zv_wt wd (n * (n - 1) / 2) p q (r + 600 - 1)) r 600 = true → zm_wait s n p q r = nI (zv_Lg (zv_wt wd (n * (n - 1) / 2) p q (r + 600 - 1)) r r).1 ∧ (zv_Lg (zv_wt wd (n * (n - 1) / 2) p q (r + 600 - 1)) r r).1 ≤ 600 ∧ zm_mf s n p q r x (r + 601) = nI (zv_Lg (zv_wt wd (n * (n - 1) / 2) p q (r + 600 - 1)) r r).2) ∧ (zv_ok (zv_wt wd (n * (n - 1) / 2) p q (r + 600 - 1)) r 600 = false → zm_wait s n p q r = (-2)) := by
  constructor
  · intro hok
    have h1 : ∀ t, t < r → zv_wt wd (n * (n - 1) / 2) p q (r + 600 - 1) t ≤ 600 := fun t ht => of_decide_eq_true (zw_all_un r hok t ht)
    have h2 := zy_mo_hi (s := s) (n := n) (p := p) (q := q) (r := r) (x := x) (wt := zv_wt wd (n * (n - 1) / 2) p q (r + 600 - 1)) (fun t ht => (zy_wt h hp hpq hr ht).1 (h1 t ht)) r (Nat.le_refl r)
    have h3 := (zv_Lg_in h1 r (Nat.le_refl r)).1
    rw [if_neg (by omega), show 601 + r = r + 601 from Nat.add_comm _ _] at h2
    refine ⟨?_, h3, h2.2⟩
    unfold zm_wait
    rw [h2.1, if_pos h3]
  · intro hok
    obtain ⟨t, ht, h1⟩ := zw_all_ex r hok
    have h2 := (zy_wt h hp hpq hr ht).2 (Nat.lt_of_not_le (of_decide_eq_false h1))
    have h3 := zy_mo_ge (s := s) (n := n) (p := p) (q := q) ht (r + 601) (by omega)
    unfold zm_wait
    rw [if_neg (by omega)]
theorem zv_Lg_ge {wt : Nat → Nat} {R : Nat} : ∀ d, d ≤ R → ∀ t, R - d ≤ t → t < R → wt t ≤ (zv_Lg wt R d).1
  | 0, _, t, h1, h2 => by omega
  | d + 1, hd, t, h1, h2 => by
    simp only [zv_Lg]
    by_cases e : t = R - 1 - d
    · subst e; split
      · exact Nat.le_refl _
      · rename_i hc; exact Nat.le_of_lt (Nat.lt_of_not_le hc)
    · have ih := zv_Lg_ge (wt := wt) d (by omega) t (by omega) h2
      split
      · rename_i hc; exact Nat.le_trans ih hc
      · exact ih
theorem zv_ok_Lg {wt : Nat → Nat} {R l : Nat} : zv_ok wt R l = true ↔ (zv_Lg wt R R).1 ≤ l := by
  constructor
  · intro h; exact (zv_Lg_in (fun t ht => of_decide_eq_true (zw_all_un R h t ht)) R (Nat.le_refl R)).1
  · intro h; exact (zv_ok_y (fun u hu => Nat.le_trans (zv_Lg_ge R (Nat.le_refl R) u (by omega) hu) h)).symm
end
/-! The best start of a relay. -/
theorem zy_best {ok : Nat → Nat → Bool} {lg : Nat → Nat} {wf : Nat → Int32} {N : Nat} (hN : N < 1000) (hwf : ∀ s, s < N → wf s = if ok s 600 = true then nI (lg s) else (-2)) (hlg : ∀ s, s < N → 1 ≤ lg s) (hok : ∀ s l, s < N → (ok s l = true ↔ lg s ≤ l)) : ∀ s, s ≤ N →
    ((zv_bst ok lg s).1 = -2 ∧ (zv_bst ok lg s).2.2 = 600 ∧ zm_rb wf s = (-2, -2)) ∨ (∃ s0 m, s0 < N ∧ 1 ≤ m ∧ m ≤ 600 ∧ zv_bst ok lg s = (nI s0, nI m, m - 1) ∧ zm_rb wf s = (nI s0, nI m))
  | 0, _ => Or.inl ⟨rfl, rfl, rfl⟩
  | s + 1, hs => by
    have ih := zy_best hN hwf hlg hok s (by omega)
    have e1 := hwf s (by omega)
    have e2 := hlg s (by omega)
    have e3 := fun l => hok s l (by omega)
    rcases ih with ⟨h1, h2, h3⟩ | ⟨s0, m, h1, h2, h3, h4, h5⟩
    · by_cases hc : ok s 600 = true
      · have hl := (e3 600).mp hc
        rw [if_pos hc] at e1
        refine Or.inr ⟨s, lg s, by omega, e2, hl, zv_bst_y (by rw [h2]; exact hc), ?_⟩
        rw [zm_rb_y (by rw [e1]; exact nI_pos (by omega)) (Or.inl (by rw [h3]; decide)), e1]
      · rw [if_neg hc] at e1
        have hc' : ok s 600 = false := by cases h9 : ok s 600; rfl; exact absurd h9 hc
        refine Or.inl ?_
        rw [zv_bst_n (by rw [h2]; exact hc'), zm_rb_n (fun q9 => q9.1 (by rw [e1]; decide))]
        exact ⟨h1, h2, h3⟩
    · by_cases hc : ok s (m - 1) = true
      · have hl := (e3 (m - 1)).mp hc
        rw [if_pos ((e3 600).mpr (by omega))] at e1
        refine Or.inr ⟨s, lg s, by omega, e2, by omega, zv_bst_y (by rw [h4]; exact hc), ?_⟩
        rw [zm_rb_y (by rw [e1]; exact nI_pos (by omega)) (Or.inr (by rw [h5, e1]; exact (nI_ltI (by omega) (by omega)).mpr (by omega))), e1]
      · have hc' : ok s (m - 1) = false := by cases h9 : ok s (m - 1); rfl; exact absurd h9 hc
        have hl : ¬ lg s ≤ m - 1 := fun q9 => hc ((e3 (m - 1)).mpr q9)
        refine Or.inr ⟨s0, m, h1, h2, h3, (zv_bst_n (by rw [h4]; exact hc')).trans h4, ?_⟩
        rw [zm_rb_n (fun q9 => ?_)]
        · exact h5
        · by_cases hc6 : ok s 600 = true
          · rw [e1, if_pos hc6, h5] at q9
            have h9 := (e3 600).mp hc6
            rcases q9.2 with h8 | h8
            · exact nI_pos (show s0 < 2 ^ 31 by omega) h8
            · have := zk_lt (by omega) (by omega) h8; omega
          · rw [e1, if_neg hc6] at q9
            exact q9.1 (by decide)
