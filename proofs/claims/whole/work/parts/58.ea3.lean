/-! What the class and the reference say of sights: the same. -/
def zy_R (n : Nat) (P S Q : Nat → Nat) (hide : Nat) (M : Nat → Nat) : Prop := (∀ x, x < n → P x = M x ∧ S x = M (7 + x) ∧ Q x = M (14 + x)) ∧ hide = M 21
section
variable {tl : Bool} {ev : (Nat → Int32) → Int32} {P S Q M : Nat → Nat} {hide n : Nat}
theorem zy_meet (h : zy_R n P S Q hide M) {p q t : Nat} (hp : p < n) (hq : q < n) : zs_meet tl ev P S Q hide p q t = zs_meet tl ev M (zm_S M) (zm_R M) (M 21) p q t := by
  have h1 := h.1 (min p q) (by omega)
  have h2 := h.1 (max p q) (by omega)
  have e1 : ∀ x, x < n → zs_ph P S x t = zs_ph M (zm_S M) x t := fun x hx => by
    have h3 := h.1 x hx
    unfold zs_ph; rw [h3.1, h3.2.1]
  have e2 : ∀ x ph, x < n → zs_pl P x ph = zs_pl M x ph := fun x ph hx => by unfold zs_pl; rw [(h.1 x hx).1]
  unfold zs_meet zs_see
  rw [e1 _ (by omega), e1 _ (by omega), e2 _ _ (by omega), e2 _ _ (by omega), h1.2.2, h2.2.2, h.2]
theorem zy_at' (h : zy_R n P S Q hide M) {w t : Nat} (hw : w < n) : zs_at P S w t = zs_at M (zm_S M) w t := by
  have h3 := h.1 w hw
  unfold zs_at zs_pl zs_ph
  rw [h3.1, h3.2.1]
theorem zy_rnd (h : zy_R n P S Q hide M) : ∀ k, k ≤ n → zs_rnd P k = zs_rnd M k
  | 0, _ => rfl
  | k + 1, hk => by simp only [zs_rnd]; rw [zy_rnd h k (by omega), (h.1 k (by omega)).1]
theorem zy_al (hn : n ≤ 7) (h : zy_R n P S Q hide M) (t : Nat) : zu_al tl ev P S Q hide n t = zu_al tl ev M (zm_S M) (zm_R M) (M 21) n t := by
  unfold zu_al
  refine zw_all_ext (fun k hk => ?_)
  have h1 := zw_tri_gre hn hk
  have h2 := zk_les_gre h1.1
  rw [zm_sT h1.1, zm_sT h1.1]
  exact zy_meet h (by omega) h1.2
theorem zy_okR (hn : n ≤ 7) (h : zy_R n P S Q hide M) : zy_ok n (zs_meet tl ev M (zm_S M) (zm_R M) (M 21)) (zu_wd tl ev P S Q hide n) :=
  ⟨hn, fun a b t => zm_meet_c _ _ _ _ _ _ a b t, fun t k hk => by
    have h1 := zw_tri_gre hn hk
    have h2 := zk_les_gre h1.1
    rw [zy_wdb hn hk, zy_meet h (by omega) h1.2]⟩
theorem zy_ledR (hW : zs_W n P S) (h : zy_R n P S Q hide M) {p q t m : Nat} (hp : p < n) (hat : zv_at (zu_wd tl ev P S Q hide n) (n * (n - 1) / 2) p q t m = true) : zw_led tl ev P S Q hide n p q = true :=
  zy_led (zy_okR (tl := tl) (ev := ev) hW.1 h) (E := zw (zw_ev tl ev P S Q hide) (n * (n - 1) / 2)) (fun _ _ hk h1 => zy_evb hW hk h1) hp hat
end
theorem zy_pq {n : Nat} {pq : Int32} (h : zb_pair n pq = true) : zu_p pq < n ∧ zu_q pq < n ∧ zu_p pq ≠ zu_q pq := by
  simp only [zb_pair, Bool.and_eq_true, decide_eq_true_eq] at h
  exact ⟨h.1.1.2, h.1.2, h.2⟩
/-! Counted, the first, the longest run. -/
theorem zy_cnt {s s' : Nat → Bool} : ∀ k, (∀ t, t < k → s t = s' t) → zs_cnt s k = zs_cnt s' k
  | 0, _ => rfl
  | k + 1, h => by simp only [zs_cnt]; rw [zy_cnt k (fun t ht => h t (by omega)), h k (Nat.lt_succ_self k)]
theorem zy_fst {s s' : Nat → Bool} : ∀ f t, (∀ x, t ≤ x → x < t + f → s x = s' x) → zc_fst s f t = zc_fst s' f t
  | 0, _, _ => rfl
  | f + 1, t, h => by simp only [zc_fst]; rw [h t (Nat.le_refl t) (by omega), zy_fst f (t + 1) (fun x h1 h2 => h x (by omega) (by omega))]
section
variable {n : Nat} {s s' : Nat → Nat → Nat → Bool}
theorem zy_sees (hs : ∀ p q t, p < n → q < n → s p q t = s' p q t) (pq t : Int32) : zu_sees n s pq t = zu_sees n s' pq t := by
  unfold zu_sees
  by_cases h : (zb_pair n pq && zb_s t) = true
  · have h1 := zy_pq ((Bool.and_eq_true _ _).mp h).1
    rw [if_pos h, if_pos h, hs _ _ _ h1.1 h1.2.1]
  · rw [if_neg h, if_neg h]
theorem zy_sights {P M : Nat → Nat} (hP : ∀ x, x < n → P x = M x) (hs : ∀ p q t, p < n → q < n → s p q t = s' p q t) (pq part : Int32) : zu_sights n P s pq part = zu_sights n M s' pq part := by
  unfold zu_sights
  by_cases h : (zb_pair n pq && zu_01 part) = true
  · have h1 := zy_pq ((Bool.and_eq_true _ _).mp h).1
    rw [if_pos h, if_pos h, hP _ h1.1, hP _ h1.2.1, zy_cnt _ (fun t _ => hs _ _ t h1.1 h1.2.1)]
  · rw [if_neg h, if_neg h]
theorem zy_unheard {P M : Nat → Nat} (hR : zs_rnd P n = zs_rnd M n) (hs : ∀ p q t, p < n → q < n → s p q t = s' p q t) (pq w t : Int32) : zu_unheard n P s pq w t = zu_unheard n M s' pq w t := by
  unfold zu_unheard
  by_cases h : (zb_pair n pq && zb_w n w && zb_s t) = true
  · have h0 := (Bool.and_eq_true _ _).mp ((Bool.and_eq_true _ _).mp h).1
    have h1 := zy_pq h0.1
    have h2 : w.toInt.toNat < n := by
      have h9 := h0.2
      simp only [zb_w, Bool.and_eq_true, decide_eq_true_eq] at h9
      exact h9.2
    rw [if_pos h, if_pos h, hR]
    by_cases h3 : w.toInt.toNat = zu_p pq ∨ w.toInt.toNat = zu_q pq
    · rw [if_pos h3, if_pos h3]
    · rw [if_neg h3, if_neg h3]
      refine zy_fst _ _ (fun x _ _ => ?_)
      unfold zu_un
      rw [hs _ _ _ h1.1 h1.2.1, hs _ _ _ h1.1 h2, hs _ _ _ h1.2.1 h2]
  · rw [if_neg h, if_neg h]
end
/-! Runs of a thing that comes again. -/
theorem zy_run_at {s : Nat → Bool} {t0 : Nat} (h : s t0 = true) : ∀ k, t0 < k → zc_run s k ≤ k - 1 - t0
  | 0, q => absurd q (Nat.not_lt_zero t0)
  | k + 1, q => by
    simp only [zc_run]; split
    · exact Nat.zero_le _
    · rename_i hk
      have hne : t0 ≠ k := fun e => hk (e ▸ h)
      have := zy_run_at h k (by omega)
      omega
theorem zy_run_all {s : Nat → Bool} : ∀ k, (∀ t, t < k → s t = false) → zc_run s k = k
  | 0, _ => rfl
  | k + 1, h => by
    simp only [zc_run]
    rw [if_neg (by rw [h k (Nat.lt_succ_self k)]; decide), zy_run_all k (fun t ht => h t (by omega))]
theorem zy_max_ge {s : Nat → Bool} : ∀ k j, j ≤ k → zc_run s j ≤ zc_max s k
  | 0, j, h => by obtain rfl : j = 0 := by omega
                  exact Nat.le_refl 0
  | k + 1, j, h => by
    simp only [zc_max]
    by_cases e : j = k + 1
    · rw [e]; exact Nat.le_max_right _ _
    · exact Nat.le_trans (zy_max_ge k j (by omega)) (Nat.le_max_left _ _)
theorem zy_max_le {s : Nat → Bool} {m : Nat} : ∀ k, (∀ j, j ≤ k → zc_run s j ≤ m) → zc_max s k ≤ m
  | 0, _ => Nat.zero_le _
  | k + 1, h => by
    simp only [zc_max]
    exact Nat.max_le.mpr ⟨zy_max_le k (fun j hj => h j (by omega)), h (k + 1) (Nat.le_refl _)⟩
theorem zy_per {s : Nat → Bool} {L : Nat} (hs : ∀ t, s (t % L) = s t) {t : Nat} : s (t + L) = s t := by
  rw [← hs (t + L), Nat.add_mod_right, hs]
theorem zy_blind1 {s : Nat → Bool} {L : Nat} (hL : 1 ≤ L) (hs : ∀ t, s (t % L) = s t) : (zc_max s (2 * L) < L) ↔ ¬ zc_max s (2 * L) = 2 * L := by
  constructor
  · intro h; omega
  · intro h
    by_cases h1 : ∃ t0, t0 < L ∧ s t0 = true
    · obtain ⟨t0, ht0, h2⟩ := h1
      have h3 : s (t0 + L) = true := by rw [zy_per hs]; exact h2
      have h4 : zc_max s (2 * L) ≤ L - 1 := zy_max_le _ (fun j hj => by
        by_cases e1 : t0 + L < j
        · have := zy_run_at h3 j e1; omega
        · by_cases e2 : t0 < j
          · have := zy_run_at h2 j e2; omega
          · have := zc_run_le s j; omega)
      omega
    · exfalso
      apply h
      have h2 : ∀ t, s t = false := fun t => by
        cases h3 : s t
        · rfl
        · exact absurd ⟨t % L, Nat.mod_lt _ hL, by rw [hs]; exact h3⟩ h1
      have h3 := zy_max_ge (s := s) (2 * L) (2 * L) (Nat.le_refl _)
      rw [zy_run_all _ (fun t _ => h2 t)] at h3
      have := zc_max_le s (2 * L)
      omega
theorem zy_fst_none {s : Nat → Bool} : ∀ f t, (∀ x, t ≤ x → x < t + f → s x = false) → zc_fst s f t = -2
  | 0, _, _ => rfl
  | f + 1, t, h => by
    rw [zc_fst_n (h t (Nat.le_refl t) (by omega))]
    exact zy_fst_none f (t + 1) (fun x h1 h2 => h x (by omega) (by omega))
theorem zy_fst_m {s : Nat → Bool} {m : Nat} (hm : s m = true) : ∀ f t, t ≤ m → m < t + f → (∀ x, t ≤ x → x < m → s x = false) → zc_fst s f t = nI m
  | 0, t, h1, h2, _ => by omega
  | f + 1, t, h1, h2, h3 => by
    by_cases e : t = m
    · rw [e, zc_fst_y hm]
    · rw [zc_fst_n (h3 t (Nat.le_refl t) (by omega))]
      exact zy_fst_m hm f (t + 1) (by omega) (by omega) (fun x h4 h5 => h3 x (by omega) h5)
/-- looked for longer than it takes to come again: the same -/
theorem zy_fst_per {s : Nat → Bool} {L R t : Nat} (hL : 1 ≤ L) (hLR : L ≤ R) (hs : ∀ t, s (t % L) = s t) (hb : t + L < 2 ^ 31) : zc_fst s L t = zc_fst s R t := by
  rcases zc_fst_c (s := s) L t with h1 | ⟨m, h1, h2, h3, h4, h5⟩
  · have h2 := zc_fst_no L t h1
    have h6 : ∀ x, s x = false := fun x => by
      have h7 : ∃ y, t ≤ y ∧ y < t + L ∧ y % L = x % L := by
        have e1 := Nat.div_add_mod t L
        have e2 := Nat.mod_lt t hL
        have e3 := Nat.mod_lt x hL
        by_cases h8 : t % L ≤ x % L
        · refine ⟨L * (t / L) + x % L, by omega, by omega, ?_⟩
          rw [Nat.mul_add_mod, Nat.mod_mod]
        · refine ⟨L * (t / L + 1) + x % L, ?_, ?_, ?_⟩
          · rw [Nat.mul_add, Nat.mul_one]; omega
          · rw [Nat.mul_add, Nat.mul_one]; omega
          · rw [Nat.mul_add_mod, Nat.mod_mod]
      obtain ⟨y, h8, h9, h10⟩ := h7
      rw [← hs x, ← h10, hs]
      exact h2 y h8 h9 (by omega)
    rw [h1, zy_fst_none R t (fun x _ _ => h6 x)]
  · rw [h1, zy_fst_m h4 R t h2 (by omega) h5]
section
variable {n : Nat} {s s' : Nat → Nat → Nat → Bool} {P M : Nat → Nat}
theorem zy_blind (hP : ∀ x, x < n → P x = M x ∧ 1 ≤ P x) (hs : ∀ p q t, p < n → q < n → s p q t = s' p q t) (hper : ∀ p q t, p < n → q < n → p ≠ q → s' p q (t % zs_lcm (M p) (M q)) = s' p q t) (pq : Int32) : zu_blind n P s pq = zm_blind n M s' pq := by
  unfold zu_blind zm_blind
  by_cases h : zb_pair n pq = true
  · have h1 := zy_pq h
    rw [if_pos h, if_pos h, (hP _ h1.1).1, (hP _ h1.2.1).1, show s (zu_p pq) (zu_q pq) = s' (zu_p pq) (zu_q pq) from funext fun t => hs _ _ t h1.1 h1.2.1]
    have hL : 1 ≤ zs_lcm (M (zu_p pq)) (M (zu_q pq)) := zs_lcm_pos (by rw [← (hP _ h1.1).1]; exact (hP _ h1.1).2) (by rw [← (hP _ h1.2.1).1]; exact (hP _ h1.2.1).2)
    have h2 := zy_blind1 hL (fun t => hper _ _ t h1.1 h1.2.1 h1.2.2)
    by_cases h3 : zc_max (s' (zu_p pq) (zu_q pq)) (2 * zs_lcm (M (zu_p pq)) (M (zu_q pq))) = 2 * zs_lcm (M (zu_p pq)) (M (zu_q pq))
    · rw [if_neg (fun q => h2.mp q h3), if_pos h3]
    · rw [if_pos (h2.mpr h3), if_neg h3]
  · rw [if_neg h, if_neg h]
theorem zy_next {sa sa' : Nat → Bool} (hR : zs_rnd P n = zs_rnd M n) (hsa : ∀ t, sa t = sa' t) (hP : ∀ x, x < n → P x = M x ∧ 1 ≤ P x) (hs : ∀ p q t, p < n → q < n → s p q t = s' p q t) (hper : ∀ p q t, p < n → q < n → p ≠ q → s' p q (t % zs_lcm (M p) (M q)) = s' p q t)
    (hle : ∀ p q, p < n → q < n → zs_lcm (M p) (M q) ≤ zs_rnd M n) (hR3 : zs_rnd M n ≤ 30000) (pq t : Int32) : zu_next n P s sa pq t = zm_next n M s' sa' pq t := by
  unfold zu_next zm_next
  by_cases h : ((decide (pq = (-1)) || zb_pair n pq) && zb_s t) = true
  · rw [if_pos h, if_pos h]
    have h0 := (Bool.and_eq_true _ _).mp h
    by_cases e : pq = -1
    · rw [if_pos e, if_pos (by rw [e]; decide), hR]
      exact zy_fst _ _ (fun x _ _ => hsa x)
    · have h2 : zb_pair n pq = true := by
        have h3 := h0.1
        rw [decide_eq_false e, Bool.false_or] at h3; exact h3
      have h1 := zy_pq h2
      obtain ⟨j, hj, ej, -⟩ := zb_pair_ex h2
      obtain ⟨u, hu, eu, hu2⟩ := zb_s_ex h0.2
      have hL : 1 ≤ zs_lcm (M (zu_p pq)) (M (zu_q pq)) := zs_lcm_pos (by rw [← (hP _ h1.1).1]; exact (hP _ h1.1).2) (by rw [← (hP _ h1.2.1).1]; exact (hP _ h1.2.1).2)
      have h9 := hle _ _ h1.1 h1.2.1
      rw [if_neg e, if_neg (by rw [ej]; exact nI_pos hj), (hP _ h1.1).1, (hP _ h1.2.1).1, show s (zu_p pq) (zu_q pq) = s' (zu_p pq) (zu_q pq) from funext fun t => hs _ _ t h1.1 h1.2.1]
      refine zy_fst_per hL h9 (fun t => hper _ _ t h1.1 h1.2.1 h1.2.2) ?_
      rw [eu, zb_nat hu]; omega
  · rw [if_neg h, if_neg h]
end
theorem zy_perR {tl : Bool} {ev : (Nat → Int32) → Int32} {P S R : Nat → Nat} {hide p q t : Nat} (h : p ≠ q) : zs_meet tl ev P S R hide p q (t % zs_lcm (P p) (P q)) = zs_meet tl ev P S R hide p q t := by
  rcases Nat.lt_or_gt_of_ne h with h1 | h1
  · exact zm_meet_mod h1
  · rw [zm_meet_c, zm_meet_c tl ev P S R hide p q t, show zs_lcm (P p) (P q) = zs_lcm (P q) (P p) by rw [zs_lcm_eq, zs_lcm_eq, Nat.lcm_comm]]
    exact zm_meet_mod h1
theorem zy_rnd_dvd {M : Nat → Nat} : ∀ n p, p < n → M p ∣ zs_rnd M n
  | 0, p, h => absurd h (Nat.not_lt_zero p)
  | n + 1, p, h => by
    simp only [zs_rnd]; rw [zs_lcm_eq]
    by_cases e : p = n
    · rw [e]; exact Nat.dvd_lcm_right _ _
    · exact Nat.dvd_trans (zy_rnd_dvd n p (by omega)) (Nat.dvd_lcm_left _ _)
theorem zy_lcm_le {M : Nat → Nat} {n p q : Nat} (hp : p < n) (hq : q < n) (h : 1 ≤ zs_rnd M n) : zs_lcm (M p) (M q) ≤ zs_rnd M n := by
  rw [zs_lcm_eq]
  exact Nat.le_of_dvd h (Nat.lcm_dvd (zy_rnd_dvd n p hp) (zy_rnd_dvd n q hq))
/-! Joined: the least row of worlds that no sight leads out of. -/
theorem zy_bi (b k : Nat) : zm_bi b k = b.testBit k := (Nat.testBit_eq_decide_div_mod_eq).symm
def zy_cl (n : Nat) (s : Nat → Nat → Bool) (C : Nat) : Prop := ∀ p q, p < q → q < n → s p q = true → (C.testBit p = true ∨ C.testBit q = true) → C.testBit p = true ∧ C.testBit q = true
def zy_sub (b C : Nat) : Prop := ∀ i, b.testBit i = true → C.testBit i = true
theorem zy_sub_eq {a b : Nat} (h1 : zy_sub a b) (h2 : zy_sub b a) : a = b := Nat.eq_of_testBit_eq fun i => by
  cases ha : a.testBit i
  · cases hb : b.testBit i
    · rfl
    · rw [h2 i hb] at ha; exact absurd ha (by decide)
  · rw [h1 i ha]
theorem zy_or2 {x p q i : Nat} : (x ||| (2 ^ p ||| 2 ^ q)).testBit i = true ↔ x.testBit i = true ∨ p = i ∨ q = i := by
  rw [Nat.testBit_or, Nat.testBit_or, Nat.testBit_two_pow, Nat.testBit_two_pow, Bool.or_eq_true, Bool.or_eq_true, decide_eq_true_eq, decide_eq_true_eq]
section
variable {n : Nat} {s : Nat → Nat → Bool}
theorem zy_jq_sub {p b C : Nat} (hC : zy_cl n s C) (hb : zy_sub b C) : ∀ q, q ≤ n → zy_sub (zm_jq s p b q) C
  | 0, _ => hb
  | q + 1, hq => by
    have ih := zy_jq_sub (p := p) hC hb q (by omega)
    simp only [zm_jq]; split
    · rename_i h
      simp only [Bool.and_eq_true, Bool.or_eq_true, decide_eq_true_eq, zy_bi] at h
      obtain ⟨⟨h1, h2⟩, h3⟩ := h
      have h4 := hC p q h1 (by omega) h3 (h2.elim (fun h => Or.inl (ih p h)) (fun h => Or.inr (ih q h)))
      intro i hi
      rcases zy_or2.mp hi with h5 | h5 | h5
      · exact ih i h5
      · rw [← h5]; exact h4.1
      · rw [← h5]; exact h4.2
    · exact ih
theorem zy_jp_sub {b C : Nat} (hC : zy_cl n s C) (hb : zy_sub b C) : ∀ p, zy_sub (zm_jp s n b p) C
  | 0 => hb
  | p + 1 => zy_jq_sub hC (zy_jp_sub hC hb p) n (Nat.le_refl n)
theorem zy_jr_sub {C : Nat} (hC : zy_cl n s C) : ∀ f b, zy_sub b C → zy_sub (zm_jr s n f b) C
  | 0, _, h => h
  | f + 1, b, h => by
    simp only [zm_jr]; split
    · exact h
    · exact zy_jr_sub hC f _ (zy_jp_sub hC h n)
theorem zy_jq_in {p b : Nat} : ∀ q, zy_sub b (zm_jq s p b q)
  | 0 => fun _ h => h
  | q + 1 => by
    have ih := zy_jq_in (p := p) (b := b) q
    simp only [zm_jq]; split
    · intro i hi; exact zy_or2.mpr (Or.inl (ih i hi))
    · exact ih
theorem zy_jp_in {b : Nat} : ∀ p, zy_sub b (zm_jp s n b p)
  | 0 => fun _ h => h
  | p + 1 => fun i hi => zy_jq_in n i (zy_jp_in p i hi)
theorem zy_jr_in : ∀ f b, zy_sub b (zm_jr s n f b)
  | 0, _ => fun _ h => h
  | f + 1, b => by
    simp only [zm_jr]; split
    · exact fun _ h => h
    · exact fun i hi => zy_jr_in f _ i (zy_jp_in n i hi)
theorem zy_jr_fix (hn : n ≤ 7) : ∀ f b, b < 2 ^ 7 → 128 - b ≤ f → zm_jp s n (zm_jr s n f b) n = zm_jr s n f b
  | 0, b, hb, h => by omega
  | f + 1, b, hb, h => by
    simp only [zm_jr]
    by_cases e : zm_jp s n b n = b
    · rw [if_pos e]; exact e
    · rw [if_neg e]
      have h1 := zm_jp_lt (s := s) hn hb n
      have h2 := zm_jp_ge (s := s) (n := n) (b := b) n
      exact zy_jr_fix hn f _ h1 (by omega)
theorem zy_jq_st {p b q0 : Nat} (hpq : p < q0) (hs : s p q0 = true) : ∀ q, q0 < q → ((zm_jq s p b q0).testBit p = true ∨ (zm_jq s p b q0).testBit q0 = true) → (zm_jq s p b q).testBit p = true ∧ (zm_jq s p b q).testBit q0 = true
  | 0, h, _ => absurd h (Nat.not_lt_zero q0)
  | q + 1, h, hb => by
    by_cases e : q0 = q
    · subst e
      simp only [zm_jq]
      rw [if_pos (by simp only [Bool.and_eq_true, Bool.or_eq_true, decide_eq_true_eq, zy_bi]; exact ⟨⟨hpq, hb⟩, hs⟩)]
      exact ⟨zy_or2.mpr (Or.inr (Or.inl rfl)), zy_or2.mpr (Or.inr (Or.inr rfl))⟩
    · have ih := zy_jq_st (b := b) hpq hs q (by omega) hb
      simp only [zm_jq]; split
      · exact ⟨zy_or2.mpr (Or.inl ih.1), zy_or2.mpr (Or.inl ih.2)⟩
      · exact ih
theorem zy_jp_mono {b : Nat} {p : Nat} : ∀ d, zy_sub (zm_jp s n b p) (zm_jp s n b (p + d))
  | 0 => fun _ h => h
  | d + 1 => fun i hi => zy_jq_in n i (zy_jp_mono d i hi)
theorem zy_fix_cl {b : Nat} (h : zm_jp s n b n = b) : zy_cl n s b := by
  intro p q hpq hq hs hb
  have h1 : zy_sub b (zm_jp s n b p) := zy_jp_in p
  have h2 : zy_sub (zm_jp s n b (p + 1)) b := by
    have h9 := zy_jp_mono (s := s) (n := n) (b := b) (p := p + 1) (n - (p + 1))
    rw [show p + 1 + (n - (p + 1)) = n by omega, h] at h9
    exact h9
  have h3 : ∀ i, b.testBit i = true → (zm_jq s p (zm_jp s n b p) q).testBit i = true := fun i hi => zy_jq_in q i (h1 i hi)
  have h4 := zy_jq_st (s := s) (b := zm_jp s n b p) hpq hs n hq (hb.elim (fun h => Or.inl (h3 p h)) (fun h => Or.inr (h3 q h)))
  exact ⟨h2 p h4.1, h2 q h4.2⟩
end
theorem zy_rch_sub {n D C : Nat} (hn : n ≤ 7) (hC : ∀ k, k < n * (n - 1) / 2 → D / 2 ^ k % 2 = 1 → (C.testBit (zk_les k) = true ∨ C.testBit (zk_gre k) = true) → C.testBit (zk_les k) = true ∧ C.testBit (zk_gre k) = true) : ∀ f b, zy_sub b C → zy_sub (zw_rch D (n * (n - 1) / 2) f b) C
  | 0, _, h => h
  | f + 1, b, h => by
    simp only [zw_rch]; split
    · exact h
    · refine zy_rch_sub hn hC f _ (fun i hi => ?_)
      rcases zx_bes _ hi with h1 | ⟨k, h1, h2, h3⟩
      · exact h i h1
      · rcases h3 with ⟨e, h4⟩ | ⟨e, h4⟩
        · rw [← e]; exact (hC k h1 h2 (Or.inr (h _ h4))).1
        · rw [← e]; exact (hC k h1 h2 (Or.inl (h _ h4))).2
theorem zy_join {n : Nat} {s : Nat → Nat → Nat → Bool} {wd : Nat → Nat} (h : zy_ok n s wd) {w t : Nat} (hw : w < n) : zw_rch (wd t) (n * (n - 1) / 2) 7 (2 ^ w) = zm_jr (fun p9 q9 => s p9 q9 t) n 128 (2 ^ w) := by
  have hn := h.1
  have hfix := zy_rch_cl (D := wd t) (K := n * (n - 1) / 2) (p := w) (by omega)
  have hfix2 := zy_jr_fix (s := fun p9 q9 => s p9 q9 t) hn 128 (2 ^ w) (zw_p2 (by omega)) (Nat.sub_le _ _)
  apply zy_sub_eq
  · have hcl := zy_fix_cl hfix2
    refine zy_rch_sub hn (fun k hk hD hb => ?_) 7 _ (zy_jr_in 128 _)
    have h1 := zw_tri_gre hn hk
    exact hcl _ _ (zk_les_gre h1.1) h1.2 ((h.2.2 t k hk).mp (by omega)) hb
  · refine zy_jr_sub (fun p q hpq hq hs hb => ?_) 128 _ (fun i hi => zy_rch_in 7 _ hi)
    have h2 : (zw_bes (zw_rch (wd t) (n * (n - 1) / 2) 7 (2 ^ w)) (wd t) (n * (n - 1) / 2)).testBit p = true := (zy_bes h (by omega)).mpr (hb.elim Or.inl (fun h9 => Or.inr ⟨q, hq, by omega, hs, h9⟩))
    have h3 : (zw_bes (zw_rch (wd t) (n * (n - 1) / 2) 7 (2 ^ w)) (wd t) (n * (n - 1) / 2)).testBit q = true := (zy_bes h hq).mpr (hb.elim (fun h9 => Or.inr ⟨p, by omega, by omega, by rw [h.2.1]; exact hs, h9⟩) Or.inl)
    rw [hfix] at h2 h3
    exact ⟨h2, h3⟩
theorem zy_joined {n : Nat} {s : Nat → Nat → Nat → Bool} {wd : Nat → Nat} (h : zy_ok n s wd) (w t : Int32) : zu_joined n wd w t = zm_joined n s w t := by
  unfold zu_joined zm_joined
  by_cases hc : (zb_w n w && zb_s t) = true
  · obtain ⟨u, hu, rfl, hu2⟩ := zb_w_ex ((Bool.and_eq_true _ _).mp hc).1
    rw [if_pos hc, if_pos hc, zb_nat hu, zy_join h hu2]
  · rw [if_neg hc, if_neg hc]
theorem zy_lasts {n : Nat} {s : Nat → Nat → Nat → Bool} {wd : Nat → Nat} {P M : Nat → Nat} (h : zy_ok n s wd) (hR : zs_rnd P n = zs_rnd M n) (pq t : Int32) : zu_lasts n P wd pq t = zm_lasts n M s pq t := by
  unfold zu_lasts zm_lasts
  by_cases hc : (zb_pair n pq && zb_s t) = true
  · have h1 := zy_pq ((Bool.and_eq_true _ _).mp hc).1
    rw [if_pos hc, if_pos hc, hR]
    refine zy_fst _ _ (fun x _ _ => ?_)
    unfold zu_apart zm_apart
    rw [zy_join h h1.1, zy_bi]
    cases hb : (zm_jr (fun p9 q9 => s p9 q9 (t.toInt.toNat + x)) n 128 (2 ^ zu_p pq)).testBit (zu_q pq)
    · exact decide_eq_true (Decidable.byContradiction (fun h9 => by rw [(zx_and _ _).mp h9] at hb; exact absurd hb (by decide)))
    · exact decide_eq_false ((zx_and _ _).mpr hb)
  · rw [if_neg hc, if_neg hc]
/-! A beam. -/
theorem zy_btw {P S M T : Nat → Nat} {n p q t : Nat} (hat : ∀ w, w < n → zs_at P S w t = zs_at M T w t ∧ zs_at M T w t < 360) (hp : p < n) (hq : q < n) : zs_btw P S n p q t = zw (zm_bb M T p q t) n := by
  have hp9 := hat p hp
  have hq9 := hat q hq
  unfold zs_btw
  rw [hp9.1, hq9.1]
  obtain ⟨a, ha⟩ : ∃ a, a = zs_at M T p t := ⟨_, rfl⟩
  obtain ⟨b, hb⟩ : ∃ b, b = zs_at M T q t := ⟨_, rfl⟩
  rw [← ha, ← hb]
  rw [← ha] at hp9
  rw [← hb] at hq9
  have h0 : ∀ f : Nat → Bool, (∀ w, w < n → f w = false) → zw f n = 0 := fun f hf => by
    rw [zw_ext (s' := fun _ => false) (fun k hk => hf k hk)]
    have : ∀ k, zw (fun _ => false) k = 0 := fun k => by
      induction k with
      | zero => rfl
      | succ k ih => simp only [zw]; rw [ih]; rfl
    exact this n
  by_cases e1 : zs_off b a = 0 ∨ zs_off b a = 180
  · rw [if_pos e1, h0]
    intro w hw
    unfold zm_bb
    rw [← ha, ← hb]
    rcases e1 with e | e
    · rw [e, if_pos (by decide)]; simp
    · rw [e, if_neg (by decide)]; simp
  · rw [if_neg e1]
    by_cases e2 : 180 < zs_off b a
    · rw [if_pos e2]
      refine zw_ext (fun w hw => ?_)
      have hw9 := hat w hw
      unfold zs_bc zm_bb
      rw [hw9.1, ← ha, ← hb, if_neg (by omega), decide_eq_true e2, Bool.true_and]
      unfold zs_off at e2 ⊢
      rw [Bool.eq_iff_iff]
      simp only [Bool.and_eq_true, decide_eq_true_eq]
      omega
    · rw [if_neg e2]
      refine zw_ext (fun w hw => ?_)
      have hw9 := hat w hw
      unfold zs_bc zm_bb
      rw [hw9.1, ← ha, ← hb, if_pos (by omega)]
theorem zy_beam {n : Nat} {P S M T : Nat → Nat} {s s' : Nat → Nat → Nat → Bool} (hat : ∀ w t, w < n → zs_at P S w t = zs_at M T w t ∧ zs_at M T w t < 360) (hs : ∀ p q t, p < n → q < n → s p q t = s' p q t) (pq t : Int32) : zu_beam n P S s pq t = zm_beam n M T s' pq t := by
  unfold zu_beam zm_beam
  by_cases hc : (zb_pair n pq && zb_s t) = true
  · have h1 := zy_pq ((Bool.and_eq_true _ _).mp hc).1
    rw [if_pos hc, if_pos hc, hs _ _ _ h1.1 h1.2.1, zy_btw (fun w hw => hat w _ hw) h1.1 h1.2.1]
  · rw [if_neg hc, if_neg hc]
