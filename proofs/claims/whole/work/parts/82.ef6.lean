/-! Worlds that are the same below n; what is left. -/
section EF6
variable {tl : Bool} {ev : (Nat → Int32) → Int32} {P P1 S S1 Q Q1 : Nat → Nat} {hide n : Nat}
def ze_cg (n : Nat) (P P1 S S1 Q Q1 : Nat → Nat) : Prop := ∀ x, x < n → P1 x = P x ∧ S1 x = S x ∧ Q1 x = Q x
theorem ze_cg_sT (hn : n ≤ 7) (h : ze_cg n P P1 S S1 Q Q1) {t k : Nat} (hk : k < n * (n - 1) / 2) : zs_sT tl ev P1 S1 Q1 hide t k = zs_sT tl ev P S Q hide t k := by
  have h1 := zw_tri_gre hn hk
  have h2 := zk_les_gre h1.1
  have a := h (zk_les k) (by omega)
  have b := h (zk_gre k) h1.2
  unfold zs_sT zs_sk zs_see zs_pl zs_ph
  rw [a.1, a.2.1, a.2.2, b.1, b.2.1, b.2.2]
theorem ze_cg_wd (hn : n ≤ 7) (h : ze_cg n P P1 S S1 Q Q1) : zu_wd tl ev P1 S1 Q1 hide n = zu_wd tl ev P S Q hide n := funext fun t => zw_ext (fun k hk => ze_cg_sT hn h hk)
theorem ze_cg_ev (hn : n ≤ 7) (h : ze_cg n P P1 S S1 Q Q1) : zw (zw_ev tl ev P1 S1 Q1 hide) (n * (n - 1) / 2) = zw (zw_ev tl ev P S Q hide) (n * (n - 1) / 2) := zw_ext (fun k hk => by
  have h1 := zw_tri_gre hn hk
  have h2 := zk_les_gre h1.1
  have a := h (zk_les k) (by omega)
  have b := h (zk_gre k) h1.2
  unfold zw_ev
  rw [a.1, b.1, show (fun t => zs_sT tl ev P1 S1 Q1 hide t k) = fun t => zs_sT tl ev P S Q hide t k from funext fun t => ze_cg_sT hn h hk])
theorem ze_cg_rnd (h : ze_cg n P P1 S S1 Q Q1) : ∀ k, k ≤ n → zs_rnd P1 k = zs_rnd P k
  | 0, _ => rfl
  | k + 1, hk => by simp only [zs_rnd]; rw [ze_cg_rnd h k (by omega), (h k (by omega)).1]
theorem ze_cg_up (h : ze_cg n P P1 S S1 Q Q1) (p s q : Nat) : ze_cg (n + 1) (zs_up P n p) (zs_up P1 n p) (zs_up S n s) (zs_up S1 n s) (zs_up Q n q) (zs_up Q1 n q) := fun x hx => by
  simp only [zs_up]
  by_cases e : x = n
  · rw [if_pos e, if_pos e, if_pos e, if_pos e, if_pos e, if_pos e]; exact ⟨rfl, rfl, rfl⟩
  · rw [if_neg e, if_neg e, if_neg e, if_neg e, if_neg e, if_neg e]; exact h x (by omega)
theorem ze_cg_rb (hn : n ≤ 6) (h : ze_cg n P P1 S S1 Q Q1) (p q period ring : Nat) : zv_rb tl ev P1 S1 Q1 hide n p q period ring = zv_rb tl ev P S Q hide n p q period ring := by
  have e1 : ∀ s, zu_wd tl ev (zs_up P1 n period) (zs_up S1 n s) (zs_up Q1 n ring) hide (n + 1) = zu_wd tl ev (zs_up P n period) (zs_up S n s) (zs_up Q n ring) hide (n + 1) := fun s => ze_cg_wd (by omega) (ze_cg_up h period s ring)
  have e2 : zs_rnd (zs_up P1 n period) (n + 1) = zs_rnd (zs_up P n period) (n + 1) := ze_cg_rnd (ze_cg_up h period 0 ring) (n + 1) (Nat.le_refl _)
  unfold zv_rb zv_rw
  rw [e2]
  simp only [e1]
theorem ze_D_cg {storm : Nat} {M : Nat → Nat} (h : ze_cg n P P1 S S1 Q Q1) (hD : ze_D n hide storm P S Q M) : ze_D n hide storm P1 S1 Q1 M := by
  obtain ⟨a1, ⟨a2, a3⟩, a4, ⟨a5, a5b⟩, a6, a7, a8, a9⟩ := hD
  refine ⟨a1, ⟨fun x hx => ?_, a3⟩, a4, ⟨a5, fun i hi => ?_⟩, fun x hx => ?_, a7, a8, a9⟩
  · have := h x hx
    rw [this.1, this.2.1, this.2.2]; exact a2 x hx
  · have := h i hi
    rw [this.1, this.2.1]; exact a5b i hi
  · rw [(h x hx).2.2]; exact a6 x hx
theorem ze_ok_cg {T : Nat → Int32} (h : ze_cg n P P1 S S1 Q Q1) (hok : zs_ok tl ev P Q hide n T) : zs_ok tl ev P1 Q1 hide n T := zs_ok_cg (fun i hi => ((h i hi).1).symm) (fun i hi => ((h i hi).2.2).symm) hok
/-! Calls. -/
theorem ze_place {M : Nat → Nat} (hR : zy_R n P S Q hide M) (w t : Int32) : zt_place n P S w t = zt_place n M (zm_S M) w t := by
  unfold zt_place
  by_cases h : (zb_w n w && zb_s t) = true
  · rw [if_pos h, if_pos h]
    obtain ⟨j, hj, rfl, hjn⟩ := zb_w_ex ((Bool.and_eq_true _ _).mp h).1
    rw [zb_nat hj, zy_at' hR hjn]
  · rw [if_neg h, if_neg h]
theorem ze_sawF {k : Nat} (hk : k ≤ 7) {s : Nat} (h : zs_W n P S) {w : Nat} (hw : w < n) (hs : s < 12) : zs_W n P (zs_up S w s) := zs_W_up h hs
theorem ze_R_st {M : Nat → Nat} (hn : n ≤ 6) (hR : zy_R n P S Q hide M) {w s : Nat} (hw : w < n) : zy_R n P (zs_up S w s) Q hide (zs_up M (7 + w) s) := by
  refine ⟨fun x hx => ?_, ?_⟩
  · have h := hR.1 x hx
    simp only [zs_up]
    rw [if_neg (show ¬ x = 7 + w by omega), if_neg (show ¬ 14 + x = 7 + w by omega)]
    by_cases e : x = w
    · rw [if_pos e, if_pos (by omega)]; exact ⟨h.1, rfl, h.2.2⟩
    · rw [if_neg e, if_neg (by omega)]; exact h
  · simp only [zs_up]
    rw [if_neg (by omega)]; exact hR.2
theorem ze_ws {zr : Nat} {SH : Nat → Int32} {MN : Nat → Nat} {IT It : Nat → Int64} {x i nn sort rel : Int32} {len k : Nat} (hx : zb_w 6 x = true → x.toInt.toNat = k ∧ ze_Sh zr SH MN IT k sort len rel It) :
    zh_wsA It len n x i nn sort rel = zm_wsA IT SH MN n x i nn ∧ zh_wsC It len n x i nn sort rel = zm_wsC IT SH MN n x i nn := by
  have hok : zh_wsOk x nn = zm_wsOk x nn := by
    unfold zh_wsOk zm_wsOk
    have t1 : (1 : Int32).toInt = 1 := rfl
    have t6 : (6 : Int32).toInt = 6 := rfl
    rw [zm_in_c nn 1 6 (by decide) (by decide), Bool.eq_iff_iff]
    simp only [Bool.and_eq_true, decide_eq_true_eq, zb_lt, zb_le, t1, t6]
    constructor
    · rintro ⟨h1, h2, h3⟩; exact ⟨h1, by omega, by omega⟩
    · rintro ⟨h1, h2, h3⟩; exact ⟨h1, by omega, by omega⟩
  unfold zh_wsA zm_wsA
  cases hw : zm_wsOk x nn with
  | false =>
    refine ⟨by rw [hok, hw, if_neg (show ¬ false = true by decide), if_neg (show ¬ false = true by decide)], ?_⟩
    unfold zh_wsC zm_wsC zh_wsGo
    rw [hok, hw]; rfl
  | true =>
    have hwx : zb_w 6 x = true := by
      unfold zm_wsOk at hw
      exact ((Bool.and_eq_true _ _).mp hw).1
    obtain ⟨e, a1, a2, a3, a4, a5, a6⟩ := hx hwx
    have e50 : nI (50 + 0) = 50 := rfl
    have hC : zh_wsC It len n x i nn sort rel = zm_wsC IT SH MN n x i nn := by
      unfold zh_wsC zm_wsC zh_wsGo
      rw [hok, hw, e, Bool.true_and, Bool.true_and, ze_K_non a4, ze_K_is (k := 0) (by decide) a4, e50]
      by_cases h5 : SH k = 50
      · rw [show decide (SH k < 0) = false by rw [h5]; decide, decide_eq_true h5, if_pos (by rfl), Bool.true_and]
        by_cases h0 : i < 0
        · rw [if_pos h0, if_neg (by rw [decide_eq_false (fun q => q h0)]; decide)]
        · rw [if_neg h0, if_pos (decide_eq_true h0), a2]
          exact ze_cw a3 (fun y hy => by rw [a3 y hy]; exact a5 h5 y hy) a1 _ _ _
      · rw [decide_eq_false h5, Bool.and_false, if_neg (show ¬ false = true by decide), Bool.false_and, if_neg (show ¬ false = true by decide)]
    refine ⟨?_, hC⟩
    rw [hok, hw, if_pos rfl, if_pos rfl, hC, e, ze_K_non a4, ze_K_is (k := 0) (by decide) a4, e50]
    by_cases h0 : SH k < 0
    · have hz : zm_wsC IT SH MN n x i nn = 0 := by
        unfold zm_wsC
        rw [e, hw, Bool.true_and, decide_eq_false (show ¬ SH k = 50 from fun q => by rw [q] at h0; exact absurd h0 (by decide)), Bool.false_and]
        rfl
      rw [decide_eq_true h0, if_pos rfl, if_neg (fun q => absurd h0 (Int32.not_lt.mpr q.1)), hz]
    · rw [decide_eq_false h0, if_neg (show ¬ false = true by decide)]
      by_cases h5 : SH k = 50
      · rw [decide_eq_true h5, if_pos rfl, if_neg (fun q => q.2 h5)]
      · rw [decide_eq_false h5, if_neg (show ¬ false = true by decide), if_pos ⟨Int32.not_lt.mp h0, h5⟩]
end EF6
