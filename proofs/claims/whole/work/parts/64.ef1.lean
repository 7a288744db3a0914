/-! Worlds, changes: one relation of both objects; what every call makes of it. -/
section EF1
theorem ze_eqI (x y : Int32) : x = y ↔ x.toInt = y.toInt := Int32.toInt_inj.symm
theorem ze_32 (x : Int32) : x.toInt64.toInt32 = x := Int32.toInt32_toInt64 x
/-- both objects' worlds: periods, starts, rings, the hiding, the storm -/
def ze_D (n hide storm : Nat) (P S Q M : Nat → Nat) : Prop := n ≤ 6 ∧ zy_R n P S Q hide M ∧ storm = M 22 ∧ zs_W n P S ∧ (∀ x, x < n → Q x ≤ 9) ∧ hide ≤ 180 ∧ storm ≤ 11 ∧ ∀ i, M i ≤ 1000
variable {n hide storm : Nat} {P S Q M : Nat → Nat}
theorem ze_D_W (h : ze_D n hide storm P S Q M) : zs_W n M (zm_S M) := ⟨h.2.2.2.1.1, fun i hi => by
  have h1 := h.2.2.2.1.2 i hi
  have h2 := h.2.1.1 i hi
  show 1 ≤ M i ∧ M i ≤ 12 ∧ M (7 + i) < 12
  omega⟩
theorem ze_D_add (h : ze_D n hide storm P S Q M) (hn : n < 6) {p s r : Nat} (h1 : 1 ≤ p) (h2 : p ≤ 12) (hs : s < 12) (hr : r ≤ 9) : ze_D (n + 1) hide storm (zs_up P n p) (zs_up S n s) (zs_up Q n r) (zm_add M n p s r) := by
  obtain ⟨a1, ⟨a2, a3⟩, a4, a5, a6, a7, a8, a9⟩ := h
  refine ⟨hn, ⟨fun x hx => ?_, ?_⟩, ?_, zs_W_add a5 (by omega) h1 h2 hs, fun x hx => ?_, a7, a8, fun i => ?_⟩
  · simp only [zm_add, zs_up]
    by_cases e : x = n
    · subst e
      rw [if_pos rfl, if_pos rfl, if_pos rfl, if_neg (by omega), if_neg (by omega), if_pos rfl, if_neg (by omega), if_pos rfl, if_pos rfl]
      exact ⟨rfl, rfl, rfl⟩
    · have h3 := a2 x (by omega)
      rw [if_neg e, if_neg e, if_neg e, if_neg (by omega), if_neg (by omega), if_neg (by omega), if_neg (by omega), if_neg (by omega), if_neg (by omega), if_neg (by omega), if_neg (by omega), if_neg (by omega)]
      exact h3
  · simp only [zm_add, zs_up]
    rw [if_neg (by omega), if_neg (by omega), if_neg (by omega)]; exact a3
  · simp only [zm_add, zs_up]
    rw [if_neg (by omega), if_neg (by omega), if_neg (by omega)]; exact a4
  · simp only [zs_up]
    by_cases e : x = n
    · rw [if_pos e]; exact hr
    · rw [if_neg e]; exact a6 x (by omega)
  · simp only [zm_add, zs_up]
    have := a9 i
    split
    · omega
    · split
      · omega
      · split <;> omega
theorem ze_isW {x y z : Int32} (h : zs_isW x y z = true) : 1 ≤ x.toInt.toNat ∧ x.toInt.toNat ≤ 12 ∧ y.toInt.toNat < 12 ∧ z.toInt.toNat ≤ 9 := by
  simp only [zs_isW, Bool.and_eq_true, decide_eq_true_eq, zb_lt, zb_le] at h
  have e1 : (1 : Int32).toInt = 1 := rfl
  have e2 : (12 : Int32).toInt = 12 := rfl
  have e3 : (9 : Int32).toInt = 9 := rfl
  have e4 : (0 : Int32).toInt = 0 := rfl
  rw [e1, e2, e3, e4] at h
  omega
theorem ze_wok {ps ring : Int32} (h : zt_wok ps ring = true) : 1 ≤ ps.toInt.toNat / 100 ∧ ps.toInt.toNat / 100 ≤ 12 ∧ ps.toInt.toNat % 100 < 12 ∧ ring.toInt.toNat ≤ 9 := by
  simp only [zt_wok, Bool.and_eq_true, decide_eq_true_eq] at h
  obtain ⟨j, hj, rfl, e⟩ := zb_of h.1
  have h1 := ze_isW h.2
  rw [e] at h1 ⊢
  rw [zb_nat (by omega), zb_nat (by omega)] at h1
  exact h1
/-! Worlds from a row. -/
def ze_by (v : Int64) : Prop := ∃ x : Int32, v = x.toInt64
theorem ze_cw {It IT : Nat → Int64} {o len : Nat} (hI : ∀ k, k < 60 → It k = IT (o + k)) (hb : ∀ k, k < 60 → ze_by (It k)) (hl : len ≤ 60) : ∀ f n k, zh_cw It len f n k = zm_cw IT o len f n k
  | 0, _, _ => rfl
  | f + 1, n, k => by
    simp only [zh_cw, zm_cw]
    by_cases h : k + 3 ≤ len
    · obtain ⟨x, hx⟩ := hb k (by omega)
      obtain ⟨y, hy⟩ := hb (k + 1) (by omega)
      obtain ⟨z, hz⟩ := hb (k + 2) (by omega)
      rw [show o + k + 1 = o + (k + 1) by omega, show o + k + 2 = o + (k + 2) by omega, ← hI k (by omega), ← hI (k + 1) (by omega), ← hI (k + 2) (by omega), hx, hy, hz, zm_one_w, ze_32, ze_32, ze_32, ze_cw hI hb hl f (n + 1) (k + 3)]
    · rw [if_neg (fun q => h q.1), if_neg (fun q => h q.1)]
theorem ze_cw_ok {It : Nat → Int64} {len : Nat} : ∀ f n k c, c < zh_cw It len f n k → k + 3 * c + 3 ≤ len ∧ n + c < 6 ∧ zs_isW (It (k + 3 * c)).toInt32 (It (k + 3 * c + 1)).toInt32 (It (k + 3 * c + 2)).toInt32 = true
  | 0, _, _, _, h => absurd h (Nat.not_lt_zero _)
  | f + 1, n, k, c, h => by
    simp only [zh_cw] at h
    by_cases h1 : k + 3 ≤ len ∧ n < 6 ∧ zs_isW (It k).toInt32 (It (k + 1)).toInt32 (It (k + 2)).toInt32 = true
    · rw [if_pos h1] at h
      cases c with
      | zero => exact ⟨by omega, by omega, h1.2.2⟩
      | succ c =>
        have h2 := ze_cw_ok (It := It) (len := len) f (n + 1) (k + 3) c (by omega)
        refine ⟨by omega, by omega, ?_⟩
        have h3 := h2.2.2
        rwa [show k + 3 + 3 * c = k + 3 * (c + 1) by omega] at h3
    · rw [if_neg h1] at h; exact absurd h (Nat.not_lt_zero _)
theorem ze_D_ad {It IT : Nat → Int64} {o len k f : Nat} (hI : ∀ k, k < 60 → It k = IT (o + k)) (hl : len ≤ 60) (h : ze_D n hide storm P S Q M) : ∀ c, c ≤ zh_cw It len f n k → ze_D (n + c) hide storm (zh_ad It P n k 0 c) (zh_ad It S n k 1 c) (zh_ad It Q n k 2 c) (zm_aw IT M n (o + k) c)
  | 0, _ => h
  | c + 1, hc => by
    have h1 := ze_D_ad (f := f) (k := k) hI hl h c (by omega)
    obtain ⟨q1, q2, q3⟩ := ze_cw_ok (It := It) (len := len) f n k c (by omega)
    have q4 := ze_isW q3
    have h2 := ze_D_add h1 q2 q4.1 q4.2.1 q4.2.2.1 q4.2.2.2
    simp only [zh_ad, zm_aw]
    rw [show o + k + 3 * c + 1 = o + (k + 3 * c + 1) by omega, show o + k + 3 * c + 2 = o + (k + 3 * c + 2) by omega, show o + k + 3 * c = o + (k + 3 * c) by omega, ← hI _ (by omega), ← hI _ (by omega), ← hI _ (by omega)]
    exact h2
theorem ze_ok_ad {tl : Bool} {ev : (Nat → Int32) → Int32} {It : Nat → Int64} {len k f : Nat} {T : Nat → Int32} (hl : len ≤ 60) (hW : zs_W n P S) (h : zs_ok tl ev P Q hide n T) : ∀ c, c ≤ zh_cw It len f n k → (∀ i, i < n + c → zh_ad It P n k 0 c i ≤ 12) ∧ zs_ok tl ev (zh_ad It P n k 0 c) (zh_ad It Q n k 2 c) hide (n + c) (zh_cl T n c)
  | 0, _ => ⟨fun i hi => (hW.2 i hi).2.1, h⟩
  | c + 1, hc => by
    have h1 := ze_ok_ad (It := It) (k := k) (f := f) hl hW h c (by omega)
    obtain ⟨q1, q2, q3⟩ := ze_cw_ok (It := It) (len := len) f n k c (by omega)
    have q4 := ze_isW q3
    refine ⟨fun i hi => ?_, zs_ok_add h1.1 q4.2.1 h1.2⟩
    simp only [zh_ad, zs_up]
    by_cases e : i = n + c
    · rw [if_pos e]; exact q4.2.1
    · rw [if_neg e]; exact h1.1 i (by omega)
/-! A change told. -/
def ze_wh (a k : Nat) : Nat := if a = 0 then k else if a = 1 then 7 + k else if a = 2 then 14 + k else if a = 3 then 21 else 22
def ze_vo (n a k v : Nat) : Prop := k < 7 ∧ a ≤ 4 ∧ (a = 0 → k < n ∧ 1 ≤ v ∧ v ≤ 12) ∧ (a = 1 → k < n ∧ v < 12) ∧ (a = 2 → k < n ∧ v ≤ 9) ∧ (a = 3 → v ≤ 180) ∧ (a = 4 → v ≤ 11)
theorem ze_vo_up {n1 a k v : Nat} (h : ze_vo n a k v) (hn : n ≤ n1) : ze_vo n1 a k v := ⟨h.1, h.2.1, fun e => ⟨Nat.lt_of_lt_of_le (h.2.2.1 e).1 hn, (h.2.2.1 e).2⟩, fun e => ⟨Nat.lt_of_lt_of_le (h.2.2.2.1 e).1 hn, (h.2.2.2.1 e).2⟩, fun e => ⟨Nat.lt_of_lt_of_le (h.2.2.2.2.1 e).1 hn, (h.2.2.2.2.1 e).2⟩, h.2.2.2.2.2⟩
theorem ze_tell (h : ze_D n hide storm P S Q M) {a k v : Nat} (hv : ze_vo n a k v) :
    ze_D n (if a = 3 then v else hide) (if a = 4 then v else storm) (if a = 0 then zs_up P k v else P) (if a = 1 then zs_up S k v else S) (if a = 2 then zs_up Q k v else Q) (zs_up M (ze_wh a k) v) := by
  obtain ⟨a1, ⟨a2, a3⟩, a4, ⟨a5, a5b⟩, a6, a7, a8, a9⟩ := h
  obtain ⟨v1, v2, v3, v4, v5, v6, v7⟩ := hv
  have hM : ∀ i, zs_up M (ze_wh a k) v i ≤ 1000 := fun i => by
    have := a9 i
    simp only [zs_up]
    split
    · rcases (by omega : a = 0 ∨ a = 1 ∨ a = 2 ∨ a = 3 ∨ a = 4) with e | e | e | e | e
      · have := v3 e; omega
      · have := v4 e; omega
      · have := v5 e; omega
      · have := v6 e; omega
      · have := v7 e; omega
    · exact this
  rcases (by omega : a = 0 ∨ a = 1 ∨ a = 2 ∨ a = 3 ∨ a = 4) with e | e | e | e | e
  · subst e
    have := v3 rfl
    refine ⟨a1, ⟨fun x hx => ?_, ?_⟩, ?_, ⟨a5, fun i hi => ?_⟩, a6, a7, a8, hM⟩
    · have := a2 x hx
      show zs_up P k v x = zs_up M k v x ∧ S x = zs_up M k v (7 + x) ∧ Q x = zs_up M k v (14 + x)
      simp only [zs_up]
      refine ⟨?_, ?_, ?_⟩
      · split
        · rfl
        · exact this.1
      · rw [if_neg (by omega)]; exact this.2.1
      · rw [if_neg (by omega)]; exact this.2.2
    · show hide = zs_up M k v 21
      simp only [zs_up]; rw [if_neg (by omega)]; exact a3
    · show storm = zs_up M k v 22
      simp only [zs_up]; rw [if_neg (by omega)]; exact a4
    · have := a5b i hi
      show 1 ≤ zs_up P k v i ∧ zs_up P k v i ≤ 12 ∧ S i < 12
      simp only [zs_up]
      split <;> omega
  · subst e
    have := v4 rfl
    refine ⟨a1, ⟨fun x hx => ?_, ?_⟩, ?_, ⟨a5, fun i hi => ?_⟩, a6, a7, a8, hM⟩
    · have := a2 x hx
      show P x = zs_up M (7 + k) v x ∧ zs_up S k v x = zs_up M (7 + k) v (7 + x) ∧ Q x = zs_up M (7 + k) v (14 + x)
      simp only [zs_up]
      refine ⟨?_, ?_, ?_⟩
      · rw [if_neg (by omega)]; exact this.1
      · by_cases e : x = k
        · rw [if_pos e, if_pos (by omega)]
        · rw [if_neg e, if_neg (by omega)]; exact this.2.1
      · rw [if_neg (by omega)]; exact this.2.2
    · show hide = zs_up M (7 + k) v 21
      simp only [zs_up]; rw [if_neg (by omega)]; exact a3
    · show storm = zs_up M (7 + k) v 22
      simp only [zs_up]; rw [if_neg (by omega)]; exact a4
    · have := a5b i hi
      show 1 ≤ P i ∧ P i ≤ 12 ∧ zs_up S k v i < 12
      simp only [zs_up]
      split <;> omega
  · subst e
    have := v5 rfl
    refine ⟨a1, ⟨fun x hx => ?_, ?_⟩, ?_, ⟨a5, a5b⟩, fun i hi => ?_, a7, a8, hM⟩
    · have := a2 x hx
      show P x = zs_up M (14 + k) v x ∧ S x = zs_up M (14 + k) v (7 + x) ∧ zs_up Q k v x = zs_up M (14 + k) v (14 + x)
      simp only [zs_up]
      refine ⟨?_, ?_, ?_⟩
      · rw [if_neg (by omega)]; exact this.1
      · rw [if_neg (by omega)]; exact this.2.1
      · by_cases e : x = k
        · rw [if_pos e, if_pos (by omega)]
        · rw [if_neg e, if_neg (by omega)]; exact this.2.2
    · show hide = zs_up M (14 + k) v 21
      simp only [zs_up]; rw [if_neg (by omega)]; exact a3
    · show storm = zs_up M (14 + k) v 22
      simp only [zs_up]; rw [if_neg (by omega)]; exact a4
    · have := a6 i hi
      show zs_up Q k v i ≤ 9
      simp only [zs_up]
      split <;> omega
  · subst e
    have := v6 rfl
    refine ⟨a1, ⟨fun x hx => ?_, ?_⟩, ?_, ⟨a5, a5b⟩, a6, this, a8, hM⟩
    · have := a2 x hx
      show P x = zs_up M 21 v x ∧ S x = zs_up M 21 v (7 + x) ∧ Q x = zs_up M 21 v (14 + x)
      simp only [zs_up]
      rw [if_neg (by omega), if_neg (by omega), if_neg (by omega)]; exact this
    · exact (if_pos rfl : zs_up M 21 v 21 = v).symm
    · show storm = zs_up M 21 v 22
      simp only [zs_up]; rw [if_neg (by omega)]; exact a4
  · subst e
    have := v7 rfl
    refine ⟨a1, ⟨fun x hx => ?_, ?_⟩, ?_, ⟨a5, a5b⟩, a6, a7, this, hM⟩
    · have := a2 x hx
      show P x = zs_up M 22 v x ∧ S x = zs_up M 22 v (7 + x) ∧ Q x = zs_up M 22 v (14 + x)
      simp only [zs_up]
      rw [if_neg (by omega), if_neg (by omega), if_neg (by omega)]; exact this
    · show hide = zs_up M 22 v 21
      simp only [zs_up]; rw [if_neg (by omega)]; exact a3
    · exact (if_pos rfl : zs_up M 22 v 22 = v).symm
theorem ze_ok_tell {tl : Bool} {ev : (Nat → Int32) → Int32} {T : Nat → Int32} (hW : zs_W n P S) (h : zs_ok tl ev P Q hide n T) {a k v : Nat} (hv : ze_vo n a k v) :
    zs_ok tl ev (if a = 0 then zs_up P k v else P) (if a = 2 then zs_up Q k v else Q) (if a = 3 then v else hide) n (if a = 4 then T else if a = 3 then zs_fill (fun _ => vp_nar .byte (nI 0)) T 3024 else zs_clw T k 21) := by
  obtain ⟨v1, v2, v3, v4, v5, v6, v7⟩ := hv
  by_cases e4 : a = 4
  · subst e4; exact h
  · rw [if_neg e4]
    by_cases e3 : a = 3
    · subst e3
      intro j hj hg pa pb hpa hpb
      have q1 := (hW.2 (zk_les j) (by have := zk_les_gre hj; omega)).2.1
      have q2 := (hW.2 (zk_gre j) hg).2.1
      refine Or.inl ?_
      show zs_fill (fun _ => vp_nar .byte (nI 0)) T 3024 (j * 144 + pa * 12 + pb) = nI 0
      have hpa' : pa < P (zk_les j) := hpa
      have hpb' : pb < P (zk_gre j) := hpb
      simp only [zs_fill]
      rw [if_pos (by omega)]
      decide
    · rw [if_neg e3, if_neg e3]
      have hP : ∀ i, i < n → P i ≤ 12 := fun i hi => (hW.2 i hi).2.1
      intro j hj hg pa pb hpa hpb
      have hP9 : (if a = 0 then zs_up P k v else P) (zk_les j) ≤ 12 ∧ (if a = 0 then zs_up P k v else P) (zk_gre j) ≤ 12 := by
        have q1 := hP (zk_les j) (by have := zk_les_gre hj; omega)
        have q2 := hP (zk_gre j) hg
        by_cases e0 : a = 0
        · have := v3 e0
          rw [if_pos e0]; simp only [zs_up]
          constructor <;> split <;> omega
        · rw [if_neg e0]; exact ⟨q1, q2⟩
      have ed : (j * 144 + pa * 12 + pb) / 144 = j := by omega
      by_cases hk : zk_les j = k ∨ zk_gre j = k
      · refine Or.inl ?_
        simp only [zs_clw]
        rw [ed, if_pos ⟨hj, hk⟩]
        decide
      · have e1 : ∀ f : Nat → Nat, zs_up f k v (zk_les j) = f (zk_les j) := fun f => if_neg (fun q => hk (Or.inl q))
        have e2 : ∀ f : Nat → Nat, zs_up f k v (zk_gre j) = f (zk_gre j) := fun f => if_neg (fun q => hk (Or.inr q))
        have eP1 : (if a = 0 then zs_up P k v else P) (zk_les j) = P (zk_les j) := by split; exact e1 P; rfl
        have eP2 : (if a = 0 then zs_up P k v else P) (zk_gre j) = P (zk_gre j) := by split; exact e2 P; rfl
        have eQ1 : (if a = 2 then zs_up Q k v else Q) (zk_les j) = Q (zk_les j) := by split; exact e1 Q; rfl
        have eQ2 : (if a = 2 then zs_up Q k v else Q) (zk_gre j) = Q (zk_gre j) := by split; exact e2 Q; rfl
        rw [eP1] at hpa
        rw [eP2] at hpb
        have h9 := h j hj hg pa pb hpa hpb
        simp only [zs_clw]
        rw [ed, if_neg (fun q => hk q.2)]
        unfold zs_sk zs_see zs_pl at h9 ⊢
        rw [eP1, eP2, eQ1, eQ2]
        exact h9
/-! Mend. -/
theorem ze_acc (h : ze_D n hide storm P S Q M) (number what v : Int32) : zm_acc n M number what v = (zu_mendable n number what && zu_fit P number.toInt.toNat what v) := by
  have e9 : ∀ k : Nat, k < 2 ^ 31 → ((what = nI k) ↔ what.toInt = k) := fun k hk => by rw [ze_eqI, nI_toInt hk]
  have hzi : ∀ a b : Nat, a < 2 ^ 31 → b < 2 ^ 31 → (zm_in v.toInt64 (lN a) (lN b) = true ↔ (a : Int) ≤ v.toInt ∧ v.toInt ≤ b) := fun a b ha hb => by
    rw [zm_in_c v a b ha hb, Bool.and_eq_true, decide_eq_true_eq, decide_eq_true_eq]
  have l3 : (3 : Int32) = nI 3 := rfl
  have l4 : (4 : Int32) = nI 4 := rfl
  have t0 : (0 : Int32).toInt = 0 := rfl
  have t1 : (1 : Int32).toInt = 1 := rfl
  have t3 : (3 : Int32).toInt = 3 := rfl
  have t12 : (12 : Int32).toInt = 12 := rfl
  have t9 : (9 : Int32).toInt = 9 := rfl
  have t180 : (180 : Int32).toInt = 180 := rfl
  unfold zm_acc zu_mendable zu_fit
  by_cases c0 : what = nI 0
  · subst c0
    rw [if_pos rfl, if_pos rfl, if_neg (by decide), Bool.eq_iff_iff]
    simp only [Bool.and_eq_true, decide_eq_true_eq, hzi 1 12 (by decide) (by decide), zb_lt, zb_le, t1, t12]
    have : (nI 0).toInt = 0 := rfl
    rw [this, t0, t3]
    constructor
    · rintro ⟨q1, q2, q3⟩; exact ⟨⟨⟨by omega, by omega⟩, q1⟩, by omega, by omega⟩
    · rintro ⟨⟨-, q1⟩, q2, q3⟩; exact ⟨q1, by omega, by omega⟩
  · by_cases c1 : what = nI 1
    · subst c1
      rw [if_neg c0, if_pos rfl, if_neg c0, if_pos rfl, if_neg (by decide), Bool.eq_iff_iff]
      have : (nI 1).toInt = 1 := rfl
      simp only [Bool.and_eq_true, decide_eq_true_eq, zb_lt, zb_le, t0, t3, this]
      constructor
      · rintro ⟨q1, q2⟩
        obtain ⟨i, hi, rfl, hin⟩ := zb_w_ex q1
        rw [zb_nat hi] at q2 ⊢
        obtain ⟨y, hy, rfl, hyn⟩ := zb_w_ex q2
        have h2 := h.2.1.1 i hin
        have h3 := h.2.2.2.1.2 i hin
        rw [nI_toInt hy, nI_toInt (by omega)]
        exact ⟨⟨⟨by omega, by omega⟩, q1⟩, by omega, by omega⟩
      · rintro ⟨⟨-, q1⟩, q2, q3⟩
        obtain ⟨i, hi, rfl, hin⟩ := zb_w_ex q1
        rw [zb_nat hi] at q3 ⊢
        have h2 := h.2.1.1 i hin
        have h3 := h.2.2.2.1.2 i hin
        rw [nI_toInt (by omega)] at q3
        refine ⟨q1, ?_⟩
        simp only [zb_w, Bool.and_eq_true, decide_eq_true_eq]
        omega
    · by_cases c2 : what = nI 2
      · subst c2
        rw [if_neg c0, if_neg c1, if_pos rfl, if_neg c0, if_neg c1, if_pos rfl, if_neg (by decide), Bool.eq_iff_iff]
        have : (nI 2).toInt = 2 := rfl
        simp only [Bool.and_eq_true, decide_eq_true_eq, hzi 1 9 (by decide) (by decide), zb_lt, zb_le, t0, t1, t3, t9, this]
        constructor
        · rintro ⟨q1, q2, q3⟩; exact ⟨⟨⟨by omega, by omega⟩, q1⟩, by omega, by omega⟩
        · rintro ⟨⟨-, q1⟩, q2, q3⟩; exact ⟨q1, by omega, by omega⟩
      · by_cases c3 : what = nI 3
        · subst c3
          rw [if_neg c0, if_neg c1, if_neg c2, if_pos rfl, if_neg c0, if_neg c1, if_neg c2, if_pos rfl, if_pos (show nI 3 = 3 ∨ nI 3 = 4 from Or.inl rfl), Bool.eq_iff_iff]
          simp only [Bool.and_eq_true, decide_eq_true_eq, hzi 0 180 (by decide) (by decide), zb_lt, t0, t180]
          constructor
          · rintro ⟨q1, q2, q3⟩; exact ⟨q1, by omega, by omega⟩
          · rintro ⟨q1, q2, q3⟩; exact ⟨q1, by omega, by omega⟩
        · by_cases c4 : what = nI 4
          · subst c4
            rw [if_neg c0, if_neg c1, if_neg c2, if_neg c3, if_pos rfl, if_neg c0, if_neg c1, if_neg c2, if_neg c3, if_pos (show nI 4 = 3 ∨ nI 4 = 4 from Or.inr rfl), Bool.eq_iff_iff]
            simp only [Bool.and_eq_true, decide_eq_true_eq, hzi 0 11 (by decide) (by decide), zb_lt, zb_le, t0, t12]
            constructor
            · rintro ⟨q1, q2, q3⟩; exact ⟨q1, by omega, by omega⟩
            · rintro ⟨q1, q2, q3⟩; exact ⟨q1, by omega, by omega⟩
          · rw [if_neg c0, if_neg c1, if_neg c2, if_neg c3, if_neg c4]
            symm
            rw [Bool.and_eq_false_iff]
            refine Or.inl ?_
            rw [if_neg (fun q => q.elim c3 c4), Bool.and_eq_false_iff, Bool.and_eq_false_iff]
            by_cases c9 : what < 0
            · exact Or.inl (Or.inl (decide_eq_false (fun q => q c9)))
            · obtain ⟨k, hk, rfl⟩ := nI_of c9
              refine Or.inl (Or.inr (decide_eq_false (fun q => q ?_)))
              rw [l3, nI_leI (by decide) hk]
              have : k ≠ 0 := fun q => c0 (by rw [q])
              have : k ≠ 1 := fun q => c1 (by rw [q])
              have : k ≠ 2 := fun q => c2 (by rw [q])
              omega
end EF1
