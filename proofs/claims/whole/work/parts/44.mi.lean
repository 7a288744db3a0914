/-! The reference: joined. -/
def zm_bi (b k : Nat) : Bool := decide (b / 2 ^ k % 2 = 1)
theorem zm_ish {b k : Nat} (hb : b < 2 ^ 7) (hk : k < 7) : nI b >>> (nI k &&& 31) = nI (b / 2 ^ k) := by
  have key : ∀ b, b < 128 → ∀ k, k < 7 → nI b >>> (nI k &&& 31) = nI (b / 2 ^ k) := by decide +kernel
  exact key b hb k hk
def zm_jq (s : Nat → Nat → Bool) (p b : Nat) : Nat → Nat | 0 => b | q + 1 => if (decide (p < q) && (zm_bi (zm_jq s p b q) p || zm_bi (zm_jq s p b q) q) && s p q) = true then zm_jq s p b q ||| (2 ^ p ||| 2 ^ q) else zm_jq s p b q
def zm_jp (s : Nat → Nat → Bool) (n b : Nat) : Nat → Nat | 0 => b | p + 1 => zm_jq s p (zm_jp s n b p) n
def zm_jr (s : Nat → Nat → Bool) (n : Nat) : Nat → Nat → Nat | 0, b => b | f + 1, b => if zm_jp s n b n = b then b else zm_jr s n f (zm_jp s n b n)
theorem zm_jq_0 {s : Nat → Nat → Bool} {p b : Nat} : ∀ q, q ≤ p + 1 → zm_jq s p b q = b
  | 0, _ => rfl
  | q + 1, h => by
    have e := zm_jq_0 (s := s) (p := p) (b := b) q (by omega)
    simp only [zm_jq]
    rw [decide_eq_false (show ¬ p < q by omega)]
    exact e
theorem zm_jq_y {s : Nat → Nat → Bool} {p b q : Nat} (h : p < q) (hi : (zm_bi (zm_jq s p b q) p || zm_bi (zm_jq s p b q) q) = true) (hs : s p q = true) : zm_jq s p b q ||| (2 ^ p ||| 2 ^ q) = zm_jq s p b (q + 1) := by
  simp only [zm_jq]
  rw [if_pos (by rw [hi, hs, decide_eq_true h]; rfl)]
theorem zm_jq_n1 {s : Nat → Nat → Bool} {p b q : Nat} (hp : zm_bi (zm_jq s p b q) p = false) (hq : zm_bi (zm_jq s p b q) q = false) : zm_jq s p b q = zm_jq s p b (q + 1) := by
  simp only [zm_jq]
  rw [if_neg (by rw [hp, hq]; simp)]
theorem zm_jq_n2 {s : Nat → Nat → Bool} {p b q : Nat} (hs : s p q = false) : zm_jq s p b q = zm_jq s p b (q + 1) := by
  simp only [zm_jq]
  rw [if_neg (by rw [hs]; simp)]
theorem zm_jq_lt {s : Nat → Nat → Bool} {p b : Nat} (hb : b < 2 ^ 7) : ∀ q, q ≤ 7 → zm_jq s p b q < 2 ^ 7
  | 0, _ => hb
  | q + 1, h => by
    have e := zm_jq_lt (s := s) (p := p) hb q (by omega)
    simp only [zm_jq]; split
    · rename_i h9
      have hpq : p < q := by
        cases h8 : decide (p < q)
        · rw [h8] at h9; simp at h9
        · exact of_decide_eq_true h8
      exact Nat.or_lt_two_pow e (Nat.or_lt_two_pow (zw_p2 (by omega)) (zw_p2 (by omega)))
    · exact e
theorem zm_jq_ge {s : Nat → Nat → Bool} {p b : Nat} : ∀ q, b ≤ zm_jq s p b q
  | 0 => Nat.le_refl _
  | q + 1 => by
    have e := zm_jq_ge (s := s) (p := p) (b := b) q
    simp only [zm_jq]; split
    · exact Nat.le_trans e Nat.left_le_or
    · exact e
theorem zm_jp_lt {s : Nat → Nat → Bool} {n b : Nat} (hn : n ≤ 7) (hb : b < 2 ^ 7) : ∀ p, zm_jp s n b p < 2 ^ 7
  | 0 => hb
  | p + 1 => zm_jq_lt (zm_jp_lt hn hb p) n hn
theorem zm_jp_ge {s : Nat → Nat → Bool} {n b : Nat} : ∀ p, b ≤ zm_jp s n b p
  | 0 => Nat.le_refl _
  | p + 1 => Nat.le_trans (zm_jp_ge p) (zm_jq_ge n)
theorem zm_jr_fuel {s : Nat → Nat → Bool} {n : Nat} (hn : n ≤ 7) : ∀ f g b, b < 2 ^ 7 → 128 - b ≤ f → 128 - b ≤ g → zm_jr s n f b = zm_jr s n g b
  | 0, _, _, hb, h, _ => by omega
  | _ + 1, 0, _, hb, _, h => by omega
  | f + 1, g + 1, b, hb, h1, h2 => by
    have h3 := zm_jp_lt (s := s) hn hb n
    have h4 := zm_jp_ge (s := s) (n := n) (b := b) n
    simp only [zm_jr]; split
    · rfl
    · rename_i h5
      exact zm_jr_fuel hn f g _ h3 (by omega) (by omega)
theorem zm_jr_y1 {s : Nat → Nat → Bool} {n b f : Nat} (h : zm_jp s n b n = b) : zm_jr s n (f + 1) b = b := if_pos h
theorem zm_jr_y {s : Nat → Nat → Bool} {n b : Nat} (h : zm_jp s n b n = b) : zm_jr s n 128 b = b := zm_jr_y1 (f := 127) h
theorem zm_jr_n1 {s : Nat → Nat → Bool} {n b f : Nat} (h : zm_jp s n b n ≠ b) : zm_jr s n (f + 1) b = zm_jr s n f (zm_jp s n b n) := if_neg h
theorem zm_jr_n {s : Nat → Nat → Bool} {n b : Nat} (hn : n ≤ 7) (hb : b < 2 ^ 7) (h : zm_jp s n b n ≠ b) : zm_jr s n 128 b = zm_jr s n 128 (zm_jp s n b n) := by
  have h3 := zm_jp_lt (s := s) hn hb n
  have h4 := zm_jp_ge (s := s) (n := n) (b := b) n
  exact (zm_jr_n1 (f := 127) h).trans (zm_jr_fuel hn 127 128 _ h3 (by omega) (by omega))
theorem zm_jr_lt {s : Nat → Nat → Bool} {n : Nat} (hn : n ≤ 7) : ∀ {f b}, b < 2 ^ 7 → zm_jr s n f b < 2 ^ 7
  | 0, _, h => h
  | f + 1, b, h => by
    simp only [zm_jr]; split
    · exact h
    · exact zm_jr_lt hn (zm_jp_lt hn h n)
def zm_joined (n : Nat) (s : Nat → Nat → Nat → Bool) (w t : Int32) : Int32 := if (zb_w n w && zb_s t) = true then nI (zm_jr (fun p9 q9 => s p9 q9 t.toInt.toNat) n 128 (2 ^ w.toInt.toNat)) else (-1)
def zm_apart (n : Nat) (s : Nat → Nat → Nat → Bool) (p q t k : Nat) : Bool := ! zm_bi (zm_jr (fun p9 q9 => s p9 q9 (t + k)) n 128 (2 ^ p)) q
def zm_lasts (n : Nat) (P : Nat → Nat) (s : Nat → Nat → Nat → Bool) (pq t : Int32) : Int32 := if (zb_pair n pq && zb_s t) = true then zc_fst (zm_apart n s (zu_p pq) (zu_q pq) t.toInt.toNat) (zs_rnd P n) 0 else (-1)

abbrev rm_X8_isIn : Room := { frames := 0, cells := 0, slots := 0, locals := 0 }
theorem dvX8_isIn : zk_dv yX8_isIn RX8 2 := by decide +kernel
set_option maxRecDepth 100000 in
set_option maxHeartbeats 400000 in
theorem ct_X8_isIn (l : Launch) (D : va_G) (g : Nat → ClassId) (τ : Nat → Nat) (x : Nat) (k : Nat) (hx : x < 2 ^ 7) (hk : k < 7) : zk_MI l D g τ yX8_isIn wmX8_isIn rm_X8_isIn [.int (nI x), .int (nI k)] [] (fun (r : Int32) (_ : Unit) => r = zk_b (zm_bi x k)) (fun (_ : Unit) => []) := by
  refine zk_of (av := [.int (nI x), .int (nI k)]) (W0 := []) (y := yX8_isIn) (wd := wmX8_isIn) (Qc := fun A => va_Qi (fun (r : Int32) (_ : Unit) => r = zk_b (zm_bi x k)) (zk_B D g A (fun (_ : Unit) => [])) A) (cc := cX8_isIn) (maxL := 2) (ret := (some .boolean)) (own := RX8) (by decide) rfl rfl (Nat.le_of_ble_eq_true rfl) ?_
  intro pP eE sS mM args below meth cC aA ls qQ Z hR_ hlk hnm hK hT hA hQ G hl
  have hd9 : x / 2 ^ k % 2 < 2 := Nat.mod_lt _ (by decide)
  refine lv_iload_n Z.1 Z.2.1 dX8_isIn_0 rfl (lv_at hl 0 rfl) ?_
  refine lv_iload_n Z.1 Z.2.1 dX8_isIn_1 rfl (lv_at hl 1 rfl) ?_
  refine zk_ishr Z dX8_isIn_2 (z := nI (x / 2 ^ k)) (zm_ish hx hk) ?_
  refine lv_iconst (v := nI 1) Z.1 Z.2.1 dX8_isIn_3 (by decide +kernel) ?_
  refine zk_iand Z dX8_isIn_4 (z := nI (x / 2 ^ k % 2)) (zw_a1 _) ?_
  refine lv_iconst (v := nI 1) Z.1 Z.2.1 dX8_isIn_5 (by decide +kernel) ?_
  refine lv_icmp_ne (tgt := 13) Z.1 Z.2.1 dX8_isIn_6 (by decide) (fun c6 => ?_) (fun c6 => ?_)
  · have c6 : x / 2 ^ k % 2 ≠ 1 := zk_neq (by omega) (by omega) c6
    refine lv_iconst (v := nI 0) Z.1 Z.2.1 dX8_isIn_13 (by decide +kernel) ?_
    refine W.eq (g2 := F0 mM 14 ls [.int (zk_b false)]) rfl ?_
    exact zk_retz Z hR_ hlk hK hQ G () (congrArg zk_b (decide_eq_false c6).symm) rfl dX8_isIn_14
  have c6 : x / 2 ^ k % 2 = 1 := zk_eq (by omega) (by omega) c6
  refine lv_iconst (v := nI 1) Z.1 Z.2.1 dX8_isIn_9 (by decide +kernel) ?_
  refine lv_goto (tgt := 14) Z.1 Z.2.1 dX8_isIn_10 (by decide) ?_
  refine W.eq (g2 := F0 mM 14 ls [.int (zk_b true)]) rfl ?_
  exact zk_retz Z hR_ hlk hK hQ G () (congrArg zk_b (decide_eq_true c6).symm) rfl dX8_isIn_14

abbrev rm_X8_joinedAt : Room := { frames := 1, cells := 0, slots := 0, locals := 24 }
theorem dvX8_joinedAt : zk_dv yX8_joinedAt RX8 2 := by decide +kernel
theorem gmX8_joinedAt_X8_isIn : GoodIn wmX8_joinedAt (va_wsS RX8 233 yX8_isIn wmX8_isIn) := goodIn_app (wa8_w (List.forall_mem_cons.mpr ⟨wa8_177, List.forall_mem_cons.mpr ⟨wa8_178, List.forall_mem_cons.mpr ⟨wa8_43, fun _ h => absurd h List.not_mem_nil⟩⟩⟩)) (wa8_sub wa8_1)
theorem gmX8_joinedAt_X8_sawAt : GoodIn wmX8_joinedAt (wsV RX8 223 RX8 yX8_sawAt wmX8_sawAt) := goodIn_app (wa8_w (List.forall_mem_cons.mpr ⟨wa8_165, List.forall_mem_cons.mpr ⟨wa8_166, List.forall_mem_cons.mpr ⟨wa8_167, List.forall_mem_cons.mpr ⟨wa8_43, fun _ h => absurd h List.not_mem_nil⟩⟩⟩⟩)) (wa8_sub wa8_157)
set_option maxRecDepth 100000 in
set_option maxHeartbeats 400000 in
theorem ct_X8_joinedAt (l : Launch) (D : va_G) (g : Nat → ClassId) (τ : Nat → Nat) (b : Nat → Nat) (m : Nat → Int32) (tl : Bool) (ev : (Nat → Int32) → Int32) (n : Nat) (M : Nat → Nat) (SN : Nat → Int32) (PR : Nat → Nat) (w : Nat) (t : Nat) (hW : zs_W n M (zm_S M)) (hok : zm_ok tl ev M n 49 SN PR) (hw : w < n) (htt : t < 2 ^ 30) : zk_MI l D g τ yX8_joinedAt wmX8_joinedAt rm_X8_joinedAt [.ref (b 100), .int (nI w), .int (nI t)] [(b 100, .inr (8, [.ref (b 0), .ref (b 1), .ref (b 2), .ref (b 3), .int (m 4), .int (m 5), .int (nI n), .int (m 7), .ref (b 8), .int (m 9), .ref (b 10), .int (m 11), .int (m 12), .int (m 13), .int (m 14), .int (m 15), .int (m 16), .ref (b 17), .ref (b 18), .ref (b 19), .ref (b 20), .ref (b 21), .ref (b 22), .ref (b 23), .ref (b 24), .int (m 25), .int (m 26), .int (m 27), .int (m 28), .ref (b 29), .ref (b 30), .int (m 31), .int (m 32), .int (m 33), .int (m 34), .int (m 35), .ref (b 36), .ref (b 37), .int (m 38), .ref (b 39), .ref (b 40), .int (m 41), .int (m 42), .int (m 43), .ref (b 44), .ref (b 45), .ref (b 46), .ref (b 47)])), (b 18, .inl (g 3, 6468, .inl SN)), (b 19, .inl (g 0, 49, .inl (fun i => nI (PR i))))] (fun (r : Int32) (_ : Unit) => r = nI (zm_jr (fun p9 q9 => zs_meet tl ev M (zm_S M) (zm_R M) (M 21) p9 q9 t) n 128 (2 ^ w))) (fun (_ : Unit) => [(b 100, .inr (8, [.ref (b 0), .ref (b 1), .ref (b 2), .ref (b 3), .int (m 4), .int (m 5), .int (nI n), .int (m 7), .ref (b 8), .int (m 9), .ref (b 10), .int (m 11), .int (m 12), .int (m 13), .int (m 14), .int (m 15), .int (m 16), .ref (b 17), .ref (b 18), .ref (b 19), .ref (b 20), .ref (b 21), .ref (b 22), .ref (b 23), .ref (b 24), .int (m 25), .int (m 26), .int (m 27), .int (m 28), .ref (b 29), .ref (b 30), .int (m 31), .int (m 32), .int (m 33), .int (m 34), .int (m 35), .ref (b 36), .ref (b 37), .int (m 38), .ref (b 39), .ref (b 40), .int (m 41), .int (m 42), .int (m 43), .ref (b 44), .ref (b 45), .ref (b 46), .ref (b 47)])), (b 18, .inl (g 3, 6468, .inl SN)), (b 19, .inl (g 0, 49, .inl (fun i => nI (PR i))))]) := by
  refine zk_of (av := [.ref (b 100), .int (nI w), .int (nI t)]) (W0 := [(b 100, .inr (8, [.ref (b 0), .ref (b 1), .ref (b 2), .ref (b 3), .int (m 4), .int (m 5), .int (nI n), .int (m 7), .ref (b 8), .int (m 9), .ref (b 10), .int (m 11), .int (m 12), .int (m 13), .int (m 14), .int (m 15), .int (m 16), .ref (b 17), .ref (b 18), .ref (b 19), .ref (b 20), .ref (b 21), .ref (b 22), .ref (b 23), .ref (b 24), .int (m 25), .int (m 26), .int (m 27), .int (m 28), .ref (b 29), .ref (b 30), .int (m 31), .int (m 32), .int (m 33), .int (m 34), .int (m 35), .ref (b 36), .ref (b 37), .int (m 38), .ref (b 39), .ref (b 40), .int (m 41), .int (m 42), .int (m 43), .ref (b 44), .ref (b 45), .ref (b 46), .ref (b 47)])), (b 18, .inl (g 3, 6468, .inl SN)), (b 19, .inl (g 0, 49, .inl (fun i => nI (PR i))))]) (y := yX8_joinedAt) (wd := wmX8_joinedAt) (Qc := fun A => va_Qi (fun (r : Int32) (_ : Unit) => r = nI (zm_jr (fun p9 q9 => zs_meet tl ev M (zm_S M) (zm_R M) (M 21) p9 q9 t) n 128 (2 ^ w))) (zk_B D g A (fun (_ : Unit) => [(b 100, .inr (8, [.ref (b 0), .ref (b 1), .ref (b 2), .ref (b 3), .int (m 4), .int (m 5), .int (nI n), .int (m 7), .ref (b 8), .int (m 9), .ref (b 10), .int (m 11), .int (m 12), .int (m 13), .int (m 14), .int (m 15), .int (m 16), .ref (b 17), .ref (b 18), .ref (b 19), .ref (b 20), .ref (b 21), .ref (b 22), .ref (b 23), .ref (b 24), .int (m 25), .int (m 26), .int (m 27), .int (m 28), .ref (b 29), .ref (b 30), .int (m 31), .int (m 32), .int (m 33), .int (m 34), .int (m 35), .ref (b 36), .ref (b 37), .int (m 38), .ref (b 39), .ref (b 40), .int (m 41), .int (m 42), .int (m 43), .ref (b 44), .ref (b 45), .ref (b 46), .ref (b 47)])), (b 18, .inl (g 3, 6468, .inl SN)), (b 19, .inl (g 0, 49, .inl (fun i => nI (PR i))))])) A) (cc := cX8_joinedAt) (maxL := 9) (ret := (some .int)) (own := RX8) (by decide) rfl rfl (Nat.le_of_ble_eq_true rfl) ?_
  intro pP eE sS mM args below meth cC aA ls qQ Z hR_ hlk hnm hK hT hA hQ G hl
  have hinX8 : ∀ w ∈ u_ws RX8 TX8 48, w ∈ wmX8_joinedAt := wa8_in
  have hn := hW.1
  obtain ⟨V, hV⟩ : ∃ V, V = zm_jr (fun p9 q9 => zs_meet tl ev M (zm_S M) (zm_R M) (M 21) p9 q9 t) n 128 (2 ^ w) := ⟨_, rfl⟩
  refine lv_iconst (v := nI 1) Z.1 Z.2.1 dX8_joinedAt_0 (by decide +kernel) ?_
  refine lv_iload_n Z.1 Z.2.1 dX8_joinedAt_1 rfl (lv_at hl 1 rfl) ?_
  refine zk_ishl Z dX8_joinedAt_2 (z := nI (2 ^ w)) (zw_1 (by omega)) ?_
  refine lv_istore_n (lv' := [(3, .int (nI (2 ^ w))), (0, .ref (b 100)), (1, .int (nI w)), (2, .int (nI t))]) Z.1 Z.2.1 dX8_joinedAt_3 rfl hl (by decide) rfl (fun ls hl => ?_)
  refine lv_iconst (v := nI 1) Z.1 Z.2.1 dX8_joinedAt_4 (by decide +kernel) ?_
  refine lv_istore (lv' := [(4, .int (nI 1)), (3, .int (nI (2 ^ w))), (0, .ref (b 100)), (1, .int (nI w)), (2, .int (nI t))]) Z.1 Z.2.1 dX8_joinedAt_5 hl (by decide) rfl (fun ls hl => ?_)
  have L7 : ∀ (nN : Nat) (y : Nat) (mo : Nat), 2 * (128 - y) + mo < nN → (y < 2 ^ 7) → (mo ≤ 1) → (mo = 0 → y = V) → (mo ≠ 0 → zm_jr (fun p9 q9 => zs_meet tl ev M (zm_S M) (zm_R M) (M 21) p9 q9 t) n 128 y = V) → ∀ (H : Heap) (locs : List Loc) (ls : Array Slot), zk_G D aA [(b 100, .inr (8, [.ref (b 0), .ref (b 1), .ref (b 2), .ref (b 3), .int (m 4), .int (m 5), .int (nI n), .int (m 7), .ref (b 8), .int (m 9), .ref (b 10), .int (m 11), .int (m 12), .int (m 13), .int (m 14), .int (m 15), .int (m 16), .ref (b 17), .ref (b 18), .ref (b 19), .ref (b 20), .ref (b 21), .ref (b 22), .ref (b 23), .ref (b 24), .int (m 25), .int (m 26), .int (m 27), .int (m 28), .ref (b 29), .ref (b 30), .int (m 31), .int (m 32), .int (m 33), .int (m 34), .int (m 35), .ref (b 36), .ref (b 37), .int (m 38), .ref (b 39), .ref (b 40), .int (m 41), .int (m 42), .int (m 43), .ref (b 44), .ref (b 45), .ref (b 46), .ref (b 47)])), (b 18, .inl (g 3, 6468, .inl SN)), (b 19, .inl (g 0, 49, .inl (fun i => nI (PR i))))] sS H locs → lv_has ls 9 [(0, .ref (b 100)), (1, .int (nI w)), (2, .int (nI t)), (3, .int (nI y)), (4, .int (nI mo))] → W pP l eE rm_X8_joinedAt sS mM args below meth cC H locs 0 0 qQ (F0 mM 7 ls []) := by
    intro nN
    induction nN with
    | zero => intros; omega
    | succ nN ih7 =>
      intro y mo hμ h1 h2 h3 h4 H locs ls G hl
      refine lv_iload Z.1 Z.2.1 dX8_joinedAt_7 (lv_at hl 4 rfl) ?_
      refine lv_if_eq (tgt := 128) Z.1 Z.2.1 dX8_joinedAt_9 (by decide) (fun c9 => ?_) (fun c9 => ?_)
      · have c9 : mo = 0 := zk_eq (by omega) (by omega) c9
        refine lv_iload_n Z.1 Z.2.1 dX8_joinedAt_128 rfl (lv_at hl 3 rfl) ?_
        exact zk_reti Z hR_ hlk hK hQ G () (congrArg nI ((h3 c9).trans hV)) rfl dX8_joinedAt_129
      have c9 : mo ≠ 0 := zk_neq (by omega) (by omega) c9
      have hy2 := zm_jp_lt (s := (fun p9 q9 => zs_meet tl ev M (zm_S M) (zm_R M) (M 21) p9 q9 t)) (n := n) hn h1
      refine lv_iload_n Z.1 Z.2.1 dX8_joinedAt_12 rfl (lv_at hl 3 rfl) ?_
      refine lv_istore (lv' := [(5, .int (nI y)), (0, .ref (b 100)), (1, .int (nI w)), (2, .int (nI t)), (3, .int (nI y)), (4, .int (nI mo))]) Z.1 Z.2.1 dX8_joinedAt_13 hl (by decide) rfl (fun ls hl => ?_)
      refine lv_iconst (v := nI 0) Z.1 Z.2.1 dX8_joinedAt_15 (by decide +kernel) ?_
      refine lv_istore (lv' := [(6, .int (nI 0)), (5, .int (nI y)), (0, .ref (b 100)), (1, .int (nI w)), (2, .int (nI t)), (3, .int (nI y)), (4, .int (nI mo))]) Z.1 Z.2.1 dX8_joinedAt_16 hl (by decide) rfl (fun ls hl => ?_)
      have L18 : ∀ (nN : Nat) (p : Nat), n - p < nN → (p ≤ n) → ∀ (H : Heap) (locs : List Loc) (ls : Array Slot), zk_G D aA [(b 100, .inr (8, [.ref (b 0), .ref (b 1), .ref (b 2), .ref (b 3), .int (m 4), .int (m 5), .int (nI n), .int (m 7), .ref (b 8), .int (m 9), .ref (b 10), .int (m 11), .int (m 12), .int (m 13), .int (m 14), .int (m 15), .int (m 16), .ref (b 17), .ref (b 18), .ref (b 19), .ref (b 20), .ref (b 21), .ref (b 22), .ref (b 23), .ref (b 24), .int (m 25), .int (m 26), .int (m 27), .int (m 28), .ref (b 29), .ref (b 30), .int (m 31), .int (m 32), .int (m 33), .int (m 34), .int (m 35), .ref (b 36), .ref (b 37), .int (m 38), .ref (b 39), .ref (b 40), .int (m 41), .int (m 42), .int (m 43), .ref (b 44), .ref (b 45), .ref (b 46), .ref (b 47)])), (b 18, .inl (g 3, 6468, .inl SN)), (b 19, .inl (g 0, 49, .inl (fun i => nI (PR i))))] sS H locs → lv_has ls 9 [(0, .ref (b 100)), (1, .int (nI w)), (2, .int (nI t)), (3, .int (nI (zm_jp (fun p9 q9 => zs_meet tl ev M (zm_S M) (zm_R M) (M 21) p9 q9 t) n y p))), (4, .int (nI mo)), (5, .int (nI y)), (6, .int (nI p))] → W pP l eE rm_X8_joinedAt sS mM args below meth cC H locs 0 0 qQ (F0 mM 18 ls []) := by
        intro nN
        induction nN with
        | zero => intros; omega
        | succ nN ih18 =>
          intro p hμ h5 H locs ls G hl
          have hy3 := hy2 p
          refine lv_iload Z.1 Z.2.1 dX8_joinedAt_18 (lv_at hl 6 rfl) ?_
          refine lv_aload_n Z.1 Z.2.1 dX8_joinedAt_20 rfl (lv_at hl 0 rfl) ?_
          refine zk_get (C := RX8) (T := TX8) (N := 48) (ci := 8) Z hK G hinX8 0 rfl rfl 6 (by decide) (List.mem_cons_of_mem _ wa8_40) rfl (v := .int (nI n)) rfl dX8_joinedAt_21 ?_
          refine lv_icmp_ge (tgt := 112) Z.1 Z.2.1 dX8_joinedAt_24 (by decide) (fun c24 => ?_) (fun c24 => ?_)
          · have c24 : n ≤ p := zk_le (by omega) (by omega) c24
            have e_1 : zm_jp (fun p9 q9 => zs_meet tl ev M (zm_S M) (zm_R M) (M 21) p9 q9 t) n y p = zm_jp (fun p9 q9 => zs_meet tl ev M (zm_S M) (zm_R M) (M 21) p9 q9 t) n y n := (by rw [show p = n by omega])
            have hl : lv_has ls 9 [(0, .ref (b 100)), (1, .int (nI w)), (2, .int (nI t)), (3, .int (nI (zm_jp (fun p9 q9 => zs_meet tl ev M (zm_S M) (zm_R M) (M 21) p9 q9 t) n y n))), (4, .int (nI mo)), (5, .int (nI y)), (6, .int (nI p))] := by rw [← e_1]; exact hl
            have hy4 := hy2 n
            have hy5 := zm_jp_ge (s := (fun p9 q9 => zs_meet tl ev M (zm_S M) (zm_R M) (M 21) p9 q9 t)) (n := n) (b := y) n
            refine lv_iload_n Z.1 Z.2.1 dX8_joinedAt_112 rfl (lv_at hl 3 rfl) ?_
            refine lv_iload Z.1 Z.2.1 dX8_joinedAt_113 (lv_at hl 5 rfl) ?_
            refine lv_icmp_eq (tgt := 122) Z.1 Z.2.1 dX8_joinedAt_115 (by decide) (fun c115 => ?_) (fun c115 => ?_)
            · have c115 : zm_jp (fun p9 q9 => zs_meet tl ev M (zm_S M) (zm_R M) (M 21) p9 q9 t) n y n = y := zk_eq (by omega) (by omega) c115
              refine lv_iconst (v := nI 0) Z.1 Z.2.1 dX8_joinedAt_122 (by decide +kernel) ?_
              refine lv_istore (lv' := [(4, .int (nI 0)), (0, .ref (b 100)), (1, .int (nI w)), (2, .int (nI t)), (3, .int (nI (zm_jp (fun p9 q9 => zs_meet tl ev M (zm_S M) (zm_R M) (M 21) p9 q9 t) n y n))), (5, .int (nI y)), (6, .int (nI p))]) Z.1 Z.2.1 dX8_joinedAt_123 hl (by decide) rfl (fun ls hl => ?_)
              refine lv_goto (tgt := 7) Z.1 Z.2.1 dX8_joinedAt_125 (by decide) ?_
              exact ih7 (zm_jp (fun p9 q9 => zs_meet tl ev M (zm_S M) (zm_R M) (M 21) p9 q9 t) n y n) 0 (by omega) (by exact hy2 n) (by decide) (by intro _; exact c115.trans ((zm_jr_y c115).symm.trans (h4 c9))) (by intro h9; exact absurd rfl h9) _ _ _ G (lv_sub hl [1, 2, 3, 4, 0] rfl)
            have c115 : zm_jp (fun p9 q9 => zs_meet tl ev M (zm_S M) (zm_R M) (M 21) p9 q9 t) n y n ≠ y := zk_neq (by omega) (by omega) c115
            refine lv_iconst (v := nI 1) Z.1 Z.2.1 dX8_joinedAt_118 (by decide +kernel) ?_
            refine lv_goto (tgt := 123) Z.1 Z.2.1 dX8_joinedAt_119 (by decide) ?_
            refine lv_istore (lv' := [(4, .int (nI 1)), (0, .ref (b 100)), (1, .int (nI w)), (2, .int (nI t)), (3, .int (nI (zm_jp (fun p9 q9 => zs_meet tl ev M (zm_S M) (zm_R M) (M 21) p9 q9 t) n y n))), (5, .int (nI y)), (6, .int (nI p))]) Z.1 Z.2.1 dX8_joinedAt_123 hl (by decide) rfl (fun ls hl => ?_)
            refine lv_goto (tgt := 7) Z.1 Z.2.1 dX8_joinedAt_125 (by decide) ?_
            exact ih7 (zm_jp (fun p9 q9 => zs_meet tl ev M (zm_S M) (zm_R M) (M 21) p9 q9 t) n y n) 1 (by omega) (by exact hy2 n) (by decide) (by intro h9; exact absurd h9 (by decide)) (by intro _; exact (zm_jr_n hn h1 c115).symm.trans (h4 c9)) _ _ _ G (lv_sub hl [1, 2, 3, 4, 0] rfl)
          have c24 : p < n := zk_nle (by omega) (by omega) c24
          refine lv_iload Z.1 Z.2.1 dX8_joinedAt_27 (lv_at hl 6 rfl) ?_
          refine lv_iconst (v := nI 1) Z.1 Z.2.1 dX8_joinedAt_29 (by decide +kernel) ?_
          refine zk_iadd Z dX8_joinedAt_30 (z := nI (p + 1)) (nI_add _ _) ?_
          have e_2 : zm_jp (fun p9 q9 => zs_meet tl ev M (zm_S M) (zm_R M) (M 21) p9 q9 t) n y p = zm_jq (fun p9 q9 => zs_meet tl ev M (zm_S M) (zm_R M) (M 21) p9 q9 t) p (zm_jp (fun p9 q9 => zs_meet tl ev M (zm_S M) (zm_R M) (M 21) p9 q9 t) n y p) (p + 1) := (zm_jq_0 (p + 1) (Nat.le_refl _)).symm
          have hl : lv_has ls 9 [(0, .ref (b 100)), (1, .int (nI w)), (2, .int (nI t)), (3, .int (nI (zm_jq (fun p9 q9 => zs_meet tl ev M (zm_S M) (zm_R M) (M 21) p9 q9 t) p (zm_jp (fun p9 q9 => zs_meet tl ev M (zm_S M) (zm_R M) (M 21) p9 q9 t) n y p) (p + 1)))), (4, .int (nI mo)), (5, .int (nI y)), (6, .int (nI p))] := by rw [← e_2]; exact hl
          refine lv_istore (lv' := [(7, .int (nI (p + 1))), (0, .ref (b 100)), (1, .int (nI w)), (2, .int (nI t)), (3, .int (nI (zm_jq (fun p9 q9 => zs_meet tl ev M (zm_S M) (zm_R M) (M 21) p9 q9 t) p (zm_jp (fun p9 q9 => zs_meet tl ev M (zm_S M) (zm_R M) (M 21) p9 q9 t) n y p) (p + 1)))), (4, .int (nI mo)), (5, .int (nI y)), (6, .int (nI p))]) Z.1 Z.2.1 dX8_joinedAt_31 hl (by decide) rfl (fun ls hl => ?_)
          have L33 : ∀ (nN : Nat) (q : Nat), n - q < nN → (p < q) → (q ≤ n) → ∀ (H : Heap) (locs : List Loc) (ls : Array Slot), zk_G D aA [(b 100, .inr (8, [.ref (b 0), .ref (b 1), .ref (b 2), .ref (b 3), .int (m 4), .int (m 5), .int (nI n), .int (m 7), .ref (b 8), .int (m 9), .ref (b 10), .int (m 11), .int (m 12), .int (m 13), .int (m 14), .int (m 15), .int (m 16), .ref (b 17), .ref (b 18), .ref (b 19), .ref (b 20), .ref (b 21), .ref (b 22), .ref (b 23), .ref (b 24), .int (m 25), .int (m 26), .int (m 27), .int (m 28), .ref (b 29), .ref (b 30), .int (m 31), .int (m 32), .int (m 33), .int (m 34), .int (m 35), .ref (b 36), .ref (b 37), .int (m 38), .ref (b 39), .ref (b 40), .int (m 41), .int (m 42), .int (m 43), .ref (b 44), .ref (b 45), .ref (b 46), .ref (b 47)])), (b 18, .inl (g 3, 6468, .inl SN)), (b 19, .inl (g 0, 49, .inl (fun i => nI (PR i))))] sS H locs → lv_has ls 9 [(0, .ref (b 100)), (1, .int (nI w)), (2, .int (nI t)), (3, .int (nI (zm_jq (fun p9 q9 => zs_meet tl ev M (zm_S M) (zm_R M) (M 21) p9 q9 t) p (zm_jp (fun p9 q9 => zs_meet tl ev M (zm_S M) (zm_R M) (M 21) p9 q9 t) n y p) q))), (4, .int (nI mo)), (5, .int (nI y)), (6, .int (nI p)), (7, .int (nI q))] → W pP l eE rm_X8_joinedAt sS mM args below meth cC H locs 0 0 qQ (F0 mM 33 ls []) := by
            intro nN
            induction nN with
            | zero => intros; omega
            | succ nN ih33 =>
              intro q hμ h6 h7 H locs ls G hl
              have hx := zm_jq_lt (s := (fun p9 q9 => zs_meet tl ev M (zm_S M) (zm_R M) (M 21) p9 q9 t)) (p := p) (hy2 p) q (by omega)
              refine lv_iload Z.1 Z.2.1 dX8_joinedAt_33 (lv_at hl 7 rfl) ?_
              refine lv_aload_n Z.1 Z.2.1 dX8_joinedAt_35 rfl (lv_at hl 0 rfl) ?_
              refine zk_get (C := RX8) (T := TX8) (N := 48) (ci := 8) Z hK G hinX8 0 rfl rfl 6 (by decide) (List.mem_cons_of_mem _ wa8_40) rfl (v := .int (nI n)) rfl dX8_joinedAt_36 ?_
              refine lv_icmp_ge (tgt := 106) Z.1 Z.2.1 dX8_joinedAt_39 (by decide) (fun c39 => ?_) (fun c39 => ?_)
              · have c39 : n ≤ q := zk_le (by omega) (by omega) c39
                have e_3 : zm_jq (fun p9 q9 => zs_meet tl ev M (zm_S M) (zm_R M) (M 21) p9 q9 t) p (zm_jp (fun p9 q9 => zs_meet tl ev M (zm_S M) (zm_R M) (M 21) p9 q9 t) n y p) q = zm_jp (fun p9 q9 => zs_meet tl ev M (zm_S M) (zm_R M) (M 21) p9 q9 t) n y (p + 1) := (by rw [show q = n by omega]; rfl)
                have hl : lv_has ls 9 [(0, .ref (b 100)), (1, .int (nI w)), (2, .int (nI t)), (3, .int (nI (zm_jp (fun p9 q9 => zs_meet tl ev M (zm_S M) (zm_R M) (M 21) p9 q9 t) n y (p + 1)))), (4, .int (nI mo)), (5, .int (nI y)), (6, .int (nI p)), (7, .int (nI q))] := by rw [← e_3]; exact hl
                refine lv_iinc (v := nI (p + 1)) (lv' := [(6, .int (nI (p + 1))), (0, .ref (b 100)), (1, .int (nI w)), (2, .int (nI t)), (3, .int (nI (zm_jp (fun p9 q9 => zs_meet tl ev M (zm_S M) (zm_R M) (M 21) p9 q9 t) n y (p + 1)))), (4, .int (nI mo)), (5, .int (nI y)), (7, .int (nI q))]) Z.1 Z.2.1 dX8_joinedAt_106 hl (k := 6) rfl (zk_inc p 1) (by decide) rfl (fun ls hl => ?_)
                refine lv_goto (tgt := 18) Z.1 Z.2.1 dX8_joinedAt_109 (by decide) ?_
                exact ih18 (p + 1) (by omega) (by omega) _ _ _ G (lv_sub hl [1, 2, 3, 4, 5, 6, 0] rfl)
              have c39 : q < n := zk_nle (by omega) (by omega) c39
              refine lv_iload_n Z.1 Z.2.1 dX8_joinedAt_42 rfl (lv_at hl 3 rfl) ?_
              refine lv_iload Z.1 Z.2.1 dX8_joinedAt_43 (lv_at hl 6 rfl) ?_
              refine zk_ci (WF := fun (_ : Unit) => [(b 100, .inr (8, [.ref (b 0), .ref (b 1), .ref (b 2), .ref (b 3), .int (m 4), .int (m 5), .int (nI n), .int (m 7), .ref (b 8), .int (m 9), .ref (b 10), .int (m 11), .int (m 12), .int (m 13), .int (m 14), .int (m 15), .int (m 16), .ref (b 17), .ref (b 18), .ref (b 19), .ref (b 20), .ref (b 21), .ref (b 22), .ref (b 23), .ref (b 24), .int (m 25), .int (m 26), .int (m 27), .int (m 28), .ref (b 29), .ref (b 30), .int (m 31), .int (m 32), .int (m 33), .int (m 34), .int (m 35), .ref (b 36), .ref (b 37), .int (m 38), .ref (b 39), .ref (b 40), .int (m 41), .int (m 42), .int (m 43), .ref (b 44), .ref (b 45), .ref (b 46), .ref (b 47)])), (b 18, .inl (g 3, 6468, .inl SN)), (b 19, .inl (g 0, 49, .inl (fun i => nI (PR i))))]) (wr := [(b 100, .inr (8, [.ref (b 0), .ref (b 1), .ref (b 2), .ref (b 3), .int (m 4), .int (m 5), .int (nI n), .int (m 7), .ref (b 8), .int (m 9), .ref (b 10), .int (m 11), .int (m 12), .int (m 13), .int (m 14), .int (m 15), .int (m 16), .ref (b 17), .ref (b 18), .ref (b 19), .ref (b 20), .ref (b 21), .ref (b 22), .ref (b 23), .ref (b 24), .int (m 25), .int (m 26), .int (m 27), .int (m 28), .ref (b 29), .ref (b 30), .int (m 31), .int (m 32), .int (m 33), .int (m 34), .int (m 35), .ref (b 36), .ref (b 37), .int (m 38), .ref (b 39), .ref (b 40), .int (m 41), .int (m 42), .int (m 43), .ref (b 44), .ref (b 45), .ref (b 46), .ref (b 47)])), (b 18, .inl (g 3, 6468, .inl SN)), (b 19, .inl (g 0, 49, .inl (fun i => nI (PR i))))]) ⟨rfl, rfl⟩ (zk_rs (As := [.int (nI (zm_jq (fun p9 q9 => zs_meet tl ev M (zm_S M) (zm_R M) (M 21) p9 q9 t) p (zm_jp (fun p9 q9 => zs_meet tl ev M (zm_S M) (zm_R M) (M 21) p9 q9 t) n y p) q)), .int (nI p)]) (rest := []) Z ((ct_X8_isIn l D g τ (zm_jq (fun p9 q9 => zs_meet tl ev M (zm_S M) (zm_R M) (M 21) p9 q9 t) p (zm_jp (fun p9 q9 => zs_meet tl ev M (zm_S M) (zm_R M) (M 21) p9 q9 t) n y p) q) p (by exact hx) (by omega)) H.size) hK hT hA G [] rfl (by decide) gmX8_joinedAt_X8_isIn rfl dvX8_isIn ⟨by decide, by decide⟩ rfl hl.1 rfl (Nat.le_of_ble_eq_true rfl) dX8_joinedAt_45 ⟨Nat.zero_le _, Nat.zero_le _⟩) hA G [] [0, 1, 2] [0, 1, 2] rfl rfl (by decide) (by decide) (by decide) (fun _ => rfl) (fun r_45 _ H locs w_45 G => ?_)
              obtain rfl : r_45 = zk_b (zm_bi (zm_jq (fun p9 q9 => zs_meet tl ev M (zm_S M) (zm_R M) (M 21) p9 q9 t) p (zm_jp (fun p9 q9 => zs_meet tl ev M (zm_S M) (zm_R M) (M 21) p9 q9 t) n y p) q) p) := w_45
              refine lv_if_ne (tgt := 60) Z.1 Z.2.1 dX8_joinedAt_48 (by decide) (fun c48 => ?_) (fun c48 => ?_)
              · have c48 : (zm_bi (zm_jq (fun p9 q9 => zs_meet tl ev M (zm_S M) (zm_R M) (M 21) p9 q9 t) p (zm_jp (fun p9 q9 => zs_meet tl ev M (zm_S M) (zm_R M) (M 21) p9 q9 t) n y p) q) p) = true := zk_b1.mp c48
                refine lv_aload_n Z.1 Z.2.1 dX8_joinedAt_60 rfl (lv_at hl 0 rfl) ?_
                refine lv_iload Z.1 Z.2.1 dX8_joinedAt_61 (lv_at hl 6 rfl) ?_
                refine lv_iload Z.1 Z.2.1 dX8_joinedAt_63 (lv_at hl 7 rfl) ?_
                refine lv_iload_n Z.1 Z.2.1 dX8_joinedAt_65 rfl (lv_at hl 2 rfl) ?_
                refine zk_ci (WF := fun (_ : Unit) => [(b 100, .inr (8, [.ref (b 0), .ref (b 1), .ref (b 2), .ref (b 3), .int (m 4), .int (m 5), .int (nI n), .int (m 7), .ref (b 8), .int (m 9), .ref (b 10), .int (m 11), .int (m 12), .int (m 13), .int (m 14), .int (m 15), .int (m 16), .ref (b 17), .ref (b 18), .ref (b 19), .ref (b 20), .ref (b 21), .ref (b 22), .ref (b 23), .ref (b 24), .int (m 25), .int (m 26), .int (m 27), .int (m 28), .ref (b 29), .ref (b 30), .int (m 31), .int (m 32), .int (m 33), .int (m 34), .int (m 35), .ref (b 36), .ref (b 37), .int (m 38), .ref (b 39), .ref (b 40), .int (m 41), .int (m 42), .int (m 43), .ref (b 44), .ref (b 45), .ref (b 46), .ref (b 47)])), (b 18, .inl (g 3, 6468, .inl SN)), (b 19, .inl (g 0, 49, .inl (fun i => nI (PR i))))]) (wr := []) ⟨rfl, rfl⟩ (zk_rv (As := [.int (nI p), .int (nI q), .int (nI t)]) (rest := []) (q0 := 0) (ci := 8) Z ((ct_X8_sawAt l D g τ b (upd m 6 (nI n)) tl ev n M SN PR p q t (by exact hW) (by exact hok) (by omega) (by omega) (by omega) (by exact htt)) H.size) hK hT hA G [0, 1, 2] rfl (by decide) rfl rfl gmX8_joinedAt_X8_sawAt rfl dvX8_sawAt ⟨by decide, by decide⟩ rfl hl.1 rfl (Nat.le_of_ble_eq_true rfl) dX8_joinedAt_66 ⟨Nat.zero_le _, Nat.zero_le _⟩) hA G [0, 1, 2] [] [0, 1, 2] rfl rfl (by decide) (by decide) (by decide) (fun _ => rfl) (fun r_66 _ H locs w_66 G => ?_)
                obtain rfl : r_66 = zk_b (zs_meet tl ev M (zm_S M) (zm_R M) (M 21) p q t) := w_66
                refine lv_if_eq (tgt := 76) Z.1 Z.2.1 dX8_joinedAt_69 (by decide) (fun c69 => ?_) (fun c69 => ?_)
                · have c69 : (zs_meet tl ev M (zm_S M) (zm_R M) (M 21) p q t) = false := zk_b0.mp c69
                  refine lv_iconst (v := nI 0) Z.1 Z.2.1 dX8_joinedAt_76 (by decide +kernel) ?_
                  refine lv_istore (lv' := [(8, .int (nI 0)), (0, .ref (b 100)), (1, .int (nI w)), (2, .int (nI t)), (3, .int (nI (zm_jq (fun p9 q9 => zs_meet tl ev M (zm_S M) (zm_R M) (M 21) p9 q9 t) p (zm_jp (fun p9 q9 => zs_meet tl ev M (zm_S M) (zm_R M) (M 21) p9 q9 t) n y p) q))), (4, .int (nI mo)), (5, .int (nI y)), (6, .int (nI p)), (7, .int (nI q))]) Z.1 Z.2.1 dX8_joinedAt_77 hl (by decide) rfl (fun ls hl => ?_)
                  refine lv_iload_n Z.1 Z.2.1 dX8_joinedAt_79 rfl (lv_at hl 4 rfl) ?_
                  refine lv_iload Z.1 Z.2.1 dX8_joinedAt_80 (lv_at hl 0 rfl) ?_
                  refine lv_if_eq (tgt := 97) Z.1 Z.2.1 dX8_joinedAt_82 (by decide) (fun c82 => ?_) (fun c82 => ?_)
                  · have c82 : 0 = 0 := zk_eq (by omega) (by omega) c82
                    refine lv_iconst (v := nI 0) Z.1 Z.2.1 dX8_joinedAt_97 (by decide +kernel) ?_
                    refine zk_ior Z dX8_joinedAt_98 (z := nI (zm_jq (fun p9 q9 => zs_meet tl ev M (zm_S M) (zm_R M) (M 21) p9 q9 t) p (zm_jp (fun p9 q9 => zs_meet tl ev M (zm_S M) (zm_R M) (M 21) p9 q9 t) n y p) (q + 1))) ((Int32.or_zero).trans (congrArg nI (zm_jq_n2 c69))) ?_
                    refine lv_istore_n (lv' := [(3, .int (nI (zm_jq (fun p9 q9 => zs_meet tl ev M (zm_S M) (zm_R M) (M 21) p9 q9 t) p (zm_jp (fun p9 q9 => zs_meet tl ev M (zm_S M) (zm_R M) (M 21) p9 q9 t) n y p) (q + 1)))), (8, .int (nI 0)), (0, .ref (b 100)), (1, .int (nI w)), (2, .int (nI t)), (4, .int (nI mo)), (5, .int (nI y)), (6, .int (nI p)), (7, .int (nI q))]) Z.1 Z.2.1 dX8_joinedAt_99 rfl hl (by decide) rfl (fun ls hl => ?_)
                    refine lv_iinc (v := nI (q + 1)) (lv' := [(7, .int (nI (q + 1))), (3, .int (nI (zm_jq (fun p9 q9 => zs_meet tl ev M (zm_S M) (zm_R M) (M 21) p9 q9 t) p (zm_jp (fun p9 q9 => zs_meet tl ev M (zm_S M) (zm_R M) (M 21) p9 q9 t) n y p) (q + 1)))), (8, .int (nI 0)), (0, .ref (b 100)), (1, .int (nI w)), (2, .int (nI t)), (4, .int (nI mo)), (5, .int (nI y)), (6, .int (nI p))]) Z.1 Z.2.1 dX8_joinedAt_100 hl (k := 8) rfl (zk_inc q 1) (by decide) rfl (fun ls hl => ?_)
                    refine lv_goto (tgt := 33) Z.1 Z.2.1 dX8_joinedAt_103 (by decide) ?_
                    exact ih33 (q + 1) (by omega) (by omega) (by omega) _ _ _ G (lv_sub hl [3, 4, 5, 1, 6, 7, 8, 0] rfl)
                  exfalso
                  have c82 : 0 ≠ 0 := zk_neq (by omega) (by omega) c82
                  omega
                have c69 : (zs_meet tl ev M (zm_S M) (zm_R M) (M 21) p q t) = true := zk_b1.mp c69
                refine lv_iconst (v := nI 1) Z.1 Z.2.1 dX8_joinedAt_72 (by decide +kernel) ?_
                refine lv_goto (tgt := 77) Z.1 Z.2.1 dX8_joinedAt_73 (by decide) ?_
                refine lv_istore (lv' := [(8, .int (nI 1)), (0, .ref (b 100)), (1, .int (nI w)), (2, .int (nI t)), (3, .int (nI (zm_jq (fun p9 q9 => zs_meet tl ev M (zm_S M) (zm_R M) (M 21) p9 q9 t) p (zm_jp (fun p9 q9 => zs_meet tl ev M (zm_S M) (zm_R M) (M 21) p9 q9 t) n y p) q))), (4, .int (nI mo)), (5, .int (nI y)), (6, .int (nI p)), (7, .int (nI q))]) Z.1 Z.2.1 dX8_joinedAt_77 hl (by decide) rfl (fun ls hl => ?_)
                refine lv_iload_n Z.1 Z.2.1 dX8_joinedAt_79 rfl (lv_at hl 4 rfl) ?_
                refine lv_iload Z.1 Z.2.1 dX8_joinedAt_80 (lv_at hl 0 rfl) ?_
                refine lv_if_eq (tgt := 97) Z.1 Z.2.1 dX8_joinedAt_82 (by decide) (fun c82 => ?_) (fun c82 => ?_)
                · exfalso
                  have c82 : 1 = 0 := zk_eq (by omega) (by omega) c82
                  exact absurd c82 (by decide)
                have c82 : 1 ≠ 0 := zk_neq (by omega) (by omega) c82
                refine lv_iconst (v := nI 1) Z.1 Z.2.1 dX8_joinedAt_85 (by decide +kernel) ?_
                refine lv_iload Z.1 Z.2.1 dX8_joinedAt_86 (lv_at hl 7 rfl) ?_
                refine zk_ishl Z dX8_joinedAt_88 (z := nI (2 ^ p)) (zw_1 (by omega)) ?_
                refine lv_iconst (v := nI 1) Z.1 Z.2.1 dX8_joinedAt_89 (by decide +kernel) ?_
                refine lv_iload Z.1 Z.2.1 dX8_joinedAt_90 (lv_at hl 8 rfl) ?_
                refine zk_ishl Z dX8_joinedAt_92 (z := nI (2 ^ q)) (zw_1 (by omega)) ?_
                refine zk_ior Z dX8_joinedAt_93 (z := nI (2 ^ p ||| 2 ^ q)) (zw_or _ _) ?_
                refine lv_goto (tgt := 98) Z.1 Z.2.1 dX8_joinedAt_94 (by decide) ?_
                refine zk_ior Z dX8_joinedAt_98 (z := nI (zm_jq (fun p9 q9 => zs_meet tl ev M (zm_S M) (zm_R M) (M 21) p9 q9 t) p (zm_jp (fun p9 q9 => zs_meet tl ev M (zm_S M) (zm_R M) (M 21) p9 q9 t) n y p) (q + 1))) ((zw_or _ _).trans (congrArg nI (zm_jq_y h6 (by rw [c48]; rfl) c69))) ?_
                refine lv_istore_n (lv' := [(3, .int (nI (zm_jq (fun p9 q9 => zs_meet tl ev M (zm_S M) (zm_R M) (M 21) p9 q9 t) p (zm_jp (fun p9 q9 => zs_meet tl ev M (zm_S M) (zm_R M) (M 21) p9 q9 t) n y p) (q + 1)))), (8, .int (nI 1)), (0, .ref (b 100)), (1, .int (nI w)), (2, .int (nI t)), (4, .int (nI mo)), (5, .int (nI y)), (6, .int (nI p)), (7, .int (nI q))]) Z.1 Z.2.1 dX8_joinedAt_99 rfl hl (by decide) rfl (fun ls hl => ?_)
                refine lv_iinc (v := nI (q + 1)) (lv' := [(7, .int (nI (q + 1))), (3, .int (nI (zm_jq (fun p9 q9 => zs_meet tl ev M (zm_S M) (zm_R M) (M 21) p9 q9 t) p (zm_jp (fun p9 q9 => zs_meet tl ev M (zm_S M) (zm_R M) (M 21) p9 q9 t) n y p) (q + 1)))), (8, .int (nI 1)), (0, .ref (b 100)), (1, .int (nI w)), (2, .int (nI t)), (4, .int (nI mo)), (5, .int (nI y)), (6, .int (nI p))]) Z.1 Z.2.1 dX8_joinedAt_100 hl (k := 8) rfl (zk_inc q 1) (by decide) rfl (fun ls hl => ?_)
                refine lv_goto (tgt := 33) Z.1 Z.2.1 dX8_joinedAt_103 (by decide) ?_
                exact ih33 (q + 1) (by omega) (by omega) (by omega) _ _ _ G (lv_sub hl [3, 4, 5, 1, 6, 7, 8, 0] rfl)
              have c48 : (zm_bi (zm_jq (fun p9 q9 => zs_meet tl ev M (zm_S M) (zm_R M) (M 21) p9 q9 t) p (zm_jp (fun p9 q9 => zs_meet tl ev M (zm_S M) (zm_R M) (M 21) p9 q9 t) n y p) q) p) = false := zk_b0.mp c48
              refine lv_iload_n Z.1 Z.2.1 dX8_joinedAt_51 rfl (lv_at hl 3 rfl) ?_
              refine lv_iload Z.1 Z.2.1 dX8_joinedAt_52 (lv_at hl 7 rfl) ?_
              refine zk_ci (WF := fun (_ : Unit) => [(b 100, .inr (8, [.ref (b 0), .ref (b 1), .ref (b 2), .ref (b 3), .int (m 4), .int (m 5), .int (nI n), .int (m 7), .ref (b 8), .int (m 9), .ref (b 10), .int (m 11), .int (m 12), .int (m 13), .int (m 14), .int (m 15), .int (m 16), .ref (b 17), .ref (b 18), .ref (b 19), .ref (b 20), .ref (b 21), .ref (b 22), .ref (b 23), .ref (b 24), .int (m 25), .int (m 26), .int (m 27), .int (m 28), .ref (b 29), .ref (b 30), .int (m 31), .int (m 32), .int (m 33), .int (m 34), .int (m 35), .ref (b 36), .ref (b 37), .int (m 38), .ref (b 39), .ref (b 40), .int (m 41), .int (m 42), .int (m 43), .ref (b 44), .ref (b 45), .ref (b 46), .ref (b 47)])), (b 18, .inl (g 3, 6468, .inl SN)), (b 19, .inl (g 0, 49, .inl (fun i => nI (PR i))))]) (wr := [(b 100, .inr (8, [.ref (b 0), .ref (b 1), .ref (b 2), .ref (b 3), .int (m 4), .int (m 5), .int (nI n), .int (m 7), .ref (b 8), .int (m 9), .ref (b 10), .int (m 11), .int (m 12), .int (m 13), .int (m 14), .int (m 15), .int (m 16), .ref (b 17), .ref (b 18), .ref (b 19), .ref (b 20), .ref (b 21), .ref (b 22), .ref (b 23), .ref (b 24), .int (m 25), .int (m 26), .int (m 27), .int (m 28), .ref (b 29), .ref (b 30), .int (m 31), .int (m 32), .int (m 33), .int (m 34), .int (m 35), .ref (b 36), .ref (b 37), .int (m 38), .ref (b 39), .ref (b 40), .int (m 41), .int (m 42), .int (m 43), .ref (b 44), .ref (b 45), .ref (b 46), .ref (b 47)])), (b 18, .inl (g 3, 6468, .inl SN)), (b 19, .inl (g 0, 49, .inl (fun i => nI (PR i))))]) ⟨rfl, rfl⟩ (zk_rs (As := [.int (nI (zm_jq (fun p9 q9 => zs_meet tl ev M (zm_S M) (zm_R M) (M 21) p9 q9 t) p (zm_jp (fun p9 q9 => zs_meet tl ev M (zm_S M) (zm_R M) (M 21) p9 q9 t) n y p) q)), .int (nI q)]) (rest := []) Z ((ct_X8_isIn l D g τ (zm_jq (fun p9 q9 => zs_meet tl ev M (zm_S M) (zm_R M) (M 21) p9 q9 t) p (zm_jp (fun p9 q9 => zs_meet tl ev M (zm_S M) (zm_R M) (M 21) p9 q9 t) n y p) q) q (by exact hx) (by omega)) H.size) hK hT hA G [] rfl (by decide) gmX8_joinedAt_X8_isIn rfl dvX8_isIn ⟨by decide, by decide⟩ rfl hl.1 rfl (Nat.le_of_ble_eq_true rfl) dX8_joinedAt_54 ⟨Nat.zero_le _, Nat.zero_le _⟩) hA G [] [0, 1, 2] [0, 1, 2] rfl rfl (by decide) (by decide) (by decide) (fun _ => rfl) (fun r_54 _ H locs w_54 G => ?_)
              obtain rfl : r_54 = zk_b (zm_bi (zm_jq (fun p9 q9 => zs_meet tl ev M (zm_S M) (zm_R M) (M 21) p9 q9 t) p (zm_jp (fun p9 q9 => zs_meet tl ev M (zm_S M) (zm_R M) (M 21) p9 q9 t) n y p) q) q) := w_54
              refine lv_if_eq (tgt := 76) Z.1 Z.2.1 dX8_joinedAt_57 (by decide) (fun c57 => ?_) (fun c57 => ?_)
              · have c57 : (zm_bi (zm_jq (fun p9 q9 => zs_meet tl ev M (zm_S M) (zm_R M) (M 21) p9 q9 t) p (zm_jp (fun p9 q9 => zs_meet tl ev M (zm_S M) (zm_R M) (M 21) p9 q9 t) n y p) q) q) = false := zk_b0.mp c57
                refine lv_iconst (v := nI 0) Z.1 Z.2.1 dX8_joinedAt_76 (by decide +kernel) ?_
                refine lv_istore (lv' := [(8, .int (nI 0)), (0, .ref (b 100)), (1, .int (nI w)), (2, .int (nI t)), (3, .int (nI (zm_jq (fun p9 q9 => zs_meet tl ev M (zm_S M) (zm_R M) (M 21) p9 q9 t) p (zm_jp (fun p9 q9 => zs_meet tl ev M (zm_S M) (zm_R M) (M 21) p9 q9 t) n y p) q))), (4, .int (nI mo)), (5, .int (nI y)), (6, .int (nI p)), (7, .int (nI q))]) Z.1 Z.2.1 dX8_joinedAt_77 hl (by decide) rfl (fun ls hl => ?_)
                refine lv_iload_n Z.1 Z.2.1 dX8_joinedAt_79 rfl (lv_at hl 4 rfl) ?_
                refine lv_iload Z.1 Z.2.1 dX8_joinedAt_80 (lv_at hl 0 rfl) ?_
                refine lv_if_eq (tgt := 97) Z.1 Z.2.1 dX8_joinedAt_82 (by decide) (fun c82 => ?_) (fun c82 => ?_)
                · have c82 : 0 = 0 := zk_eq (by omega) (by omega) c82
                  refine lv_iconst (v := nI 0) Z.1 Z.2.1 dX8_joinedAt_97 (by decide +kernel) ?_
                  refine zk_ior Z dX8_joinedAt_98 (z := nI (zm_jq (fun p9 q9 => zs_meet tl ev M (zm_S M) (zm_R M) (M 21) p9 q9 t) p (zm_jp (fun p9 q9 => zs_meet tl ev M (zm_S M) (zm_R M) (M 21) p9 q9 t) n y p) (q + 1))) ((Int32.or_zero).trans (congrArg nI (zm_jq_n1 c48 c57))) ?_
                  refine lv_istore_n (lv' := [(3, .int (nI (zm_jq (fun p9 q9 => zs_meet tl ev M (zm_S M) (zm_R M) (M 21) p9 q9 t) p (zm_jp (fun p9 q9 => zs_meet tl ev M (zm_S M) (zm_R M) (M 21) p9 q9 t) n y p) (q + 1)))), (8, .int (nI 0)), (0, .ref (b 100)), (1, .int (nI w)), (2, .int (nI t)), (4, .int (nI mo)), (5, .int (nI y)), (6, .int (nI p)), (7, .int (nI q))]) Z.1 Z.2.1 dX8_joinedAt_99 rfl hl (by decide) rfl (fun ls hl => ?_)
                  refine lv_iinc (v := nI (q + 1)) (lv' := [(7, .int (nI (q + 1))), (3, .int (nI (zm_jq (fun p9 q9 => zs_meet tl ev M (zm_S M) (zm_R M) (M 21) p9 q9 t) p (zm_jp (fun p9 q9 => zs_meet tl ev M (zm_S M) (zm_R M) (M 21) p9 q9 t) n y p) (q + 1)))), (8, .int (nI 0)), (0, .ref (b 100)), (1, .int (nI w)), (2, .int (nI t)), (4, .int (nI mo)), (5, .int (nI y)), (6, .int (nI p))]) Z.1 Z.2.1 dX8_joinedAt_100 hl (k := 8) rfl (zk_inc q 1) (by decide) rfl (fun ls hl => ?_)
                  refine lv_goto (tgt := 33) Z.1 Z.2.1 dX8_joinedAt_103 (by decide) ?_
                  exact ih33 (q + 1) (by omega) (by omega) (by omega) _ _ _ G (lv_sub hl [3, 4, 5, 1, 6, 7, 8, 0] rfl)
                exfalso
                have c82 : 0 ≠ 0 := zk_neq (by omega) (by omega) c82
                omega
              have c57 : (zm_bi (zm_jq (fun p9 q9 => zs_meet tl ev M (zm_S M) (zm_R M) (M 21) p9 q9 t) p (zm_jp (fun p9 q9 => zs_meet tl ev M (zm_S M) (zm_R M) (M 21) p9 q9 t) n y p) q) q) = true := zk_b1.mp c57
              refine lv_aload_n Z.1 Z.2.1 dX8_joinedAt_60 rfl (lv_at hl 0 rfl) ?_
              refine lv_iload Z.1 Z.2.1 dX8_joinedAt_61 (lv_at hl 6 rfl) ?_
              refine lv_iload Z.1 Z.2.1 dX8_joinedAt_63 (lv_at hl 7 rfl) ?_
              refine lv_iload_n Z.1 Z.2.1 dX8_joinedAt_65 rfl (lv_at hl 2 rfl) ?_
              refine zk_ci (WF := fun (_ : Unit) => [(b 100, .inr (8, [.ref (b 0), .ref (b 1), .ref (b 2), .ref (b 3), .int (m 4), .int (m 5), .int (nI n), .int (m 7), .ref (b 8), .int (m 9), .ref (b 10), .int (m 11), .int (m 12), .int (m 13), .int (m 14), .int (m 15), .int (m 16), .ref (b 17), .ref (b 18), .ref (b 19), .ref (b 20), .ref (b 21), .ref (b 22), .ref (b 23), .ref (b 24), .int (m 25), .int (m 26), .int (m 27), .int (m 28), .ref (b 29), .ref (b 30), .int (m 31), .int (m 32), .int (m 33), .int (m 34), .int (m 35), .ref (b 36), .ref (b 37), .int (m 38), .ref (b 39), .ref (b 40), .int (m 41), .int (m 42), .int (m 43), .ref (b 44), .ref (b 45), .ref (b 46), .ref (b 47)])), (b 18, .inl (g 3, 6468, .inl SN)), (b 19, .inl (g 0, 49, .inl (fun i => nI (PR i))))]) (wr := []) ⟨rfl, rfl⟩ (zk_rv (As := [.int (nI p), .int (nI q), .int (nI t)]) (rest := []) (q0 := 0) (ci := 8) Z ((ct_X8_sawAt l D g τ b (upd m 6 (nI n)) tl ev n M SN PR p q t (by exact hW) (by exact hok) (by omega) (by omega) (by omega) (by exact htt)) H.size) hK hT hA G [0, 1, 2] rfl (by decide) rfl rfl gmX8_joinedAt_X8_sawAt rfl dvX8_sawAt ⟨by decide, by decide⟩ rfl hl.1 rfl (Nat.le_of_ble_eq_true rfl) dX8_joinedAt_66 ⟨Nat.zero_le _, Nat.zero_le _⟩) hA G [0, 1, 2] [] [0, 1, 2] rfl rfl (by decide) (by decide) (by decide) (fun _ => rfl) (fun r_66 _ H locs w_66 G => ?_)
              obtain rfl : r_66 = zk_b (zs_meet tl ev M (zm_S M) (zm_R M) (M 21) p q t) := w_66
              refine lv_if_eq (tgt := 76) Z.1 Z.2.1 dX8_joinedAt_69 (by decide) (fun c69 => ?_) (fun c69 => ?_)
              · have c69 : (zs_meet tl ev M (zm_S M) (zm_R M) (M 21) p q t) = false := zk_b0.mp c69
                refine lv_iconst (v := nI 0) Z.1 Z.2.1 dX8_joinedAt_76 (by decide +kernel) ?_
                refine lv_istore (lv' := [(8, .int (nI 0)), (0, .ref (b 100)), (1, .int (nI w)), (2, .int (nI t)), (3, .int (nI (zm_jq (fun p9 q9 => zs_meet tl ev M (zm_S M) (zm_R M) (M 21) p9 q9 t) p (zm_jp (fun p9 q9 => zs_meet tl ev M (zm_S M) (zm_R M) (M 21) p9 q9 t) n y p) q))), (4, .int (nI mo)), (5, .int (nI y)), (6, .int (nI p)), (7, .int (nI q))]) Z.1 Z.2.1 dX8_joinedAt_77 hl (by decide) rfl (fun ls hl => ?_)
                refine lv_iload_n Z.1 Z.2.1 dX8_joinedAt_79 rfl (lv_at hl 4 rfl) ?_
                refine lv_iload Z.1 Z.2.1 dX8_joinedAt_80 (lv_at hl 0 rfl) ?_
                refine lv_if_eq (tgt := 97) Z.1 Z.2.1 dX8_joinedAt_82 (by decide) (fun c82 => ?_) (fun c82 => ?_)
                · have c82 : 0 = 0 := zk_eq (by omega) (by omega) c82
                  refine lv_iconst (v := nI 0) Z.1 Z.2.1 dX8_joinedAt_97 (by decide +kernel) ?_
                  refine zk_ior Z dX8_joinedAt_98 (z := nI (zm_jq (fun p9 q9 => zs_meet tl ev M (zm_S M) (zm_R M) (M 21) p9 q9 t) p (zm_jp (fun p9 q9 => zs_meet tl ev M (zm_S M) (zm_R M) (M 21) p9 q9 t) n y p) (q + 1))) ((Int32.or_zero).trans (congrArg nI (zm_jq_n2 c69))) ?_
                  refine lv_istore_n (lv' := [(3, .int (nI (zm_jq (fun p9 q9 => zs_meet tl ev M (zm_S M) (zm_R M) (M 21) p9 q9 t) p (zm_jp (fun p9 q9 => zs_meet tl ev M (zm_S M) (zm_R M) (M 21) p9 q9 t) n y p) (q + 1)))), (8, .int (nI 0)), (0, .ref (b 100)), (1, .int (nI w)), (2, .int (nI t)), (4, .int (nI mo)), (5, .int (nI y)), (6, .int (nI p)), (7, .int (nI q))]) Z.1 Z.2.1 dX8_joinedAt_99 rfl hl (by decide) rfl (fun ls hl => ?_)
                  refine lv_iinc (v := nI (q + 1)) (lv' := [(7, .int (nI (q + 1))), (3, .int (nI (zm_jq (fun p9 q9 => zs_meet tl ev M (zm_S M) (zm_R M) (M 21) p9 q9 t) p (zm_jp (fun p9 q9 => zs_meet tl ev M (zm_S M) (zm_R M) (M 21) p9 q9 t) n y p) (q + 1)))), (8, .int (nI 0)), (0, .ref (b 100)), (1, .int (nI w)), (2, .int (nI t)), (4, .int (nI mo)), (5, .int (nI y)), (6, .int (nI p))]) Z.1 Z.2.1 dX8_joinedAt_100 hl (k := 8) rfl (zk_inc q 1) (by decide) rfl (fun ls hl => ?_)
                  refine lv_goto (tgt := 33) Z.1 Z.2.1 dX8_joinedAt_103 (by decide) ?_
                  exact ih33 (q + 1) (by omega) (by omega) (by omega) _ _ _ G (lv_sub hl [3, 4, 5, 1, 6, 7, 8, 0] rfl)
                exfalso
                have c82 : 0 ≠ 0 := zk_neq (by omega) (by omega) c82
                omega
              have c69 : (zs_meet tl ev M (zm_S M) (zm_R M) (M 21) p q t) = true := zk_b1.mp c69
              refine lv_iconst (v := nI 1) Z.1 Z.2.1 dX8_joinedAt_72 (by decide +kernel) ?_
              refine lv_goto (tgt := 77) Z.1 Z.2.1 dX8_joinedAt_73 (by decide) ?_
              refine lv_istore (lv' := [(8, .int (nI 1)), (0, .ref (b 100)), (1, .int (nI w)), (2, .int (nI t)), (3, .int (nI (zm_jq (fun p9 q9 => zs_meet tl ev M (zm_S M) (zm_R M) (M 21) p9 q9 t) p (zm_jp (fun p9 q9 => zs_meet tl ev M (zm_S M) (zm_R M) (M 21) p9 q9 t) n y p) q))), (4, .int (nI mo)), (5, .int (nI y)), (6, .int (nI p)), (7, .int (nI q))]) Z.1 Z.2.1 dX8_joinedAt_77 hl (by decide) rfl (fun ls hl => ?_)
              refine lv_iload_n Z.1 Z.2.1 dX8_joinedAt_79 rfl (lv_at hl 4 rfl) ?_
              refine lv_iload Z.1 Z.2.1 dX8_joinedAt_80 (lv_at hl 0 rfl) ?_
              refine lv_if_eq (tgt := 97) Z.1 Z.2.1 dX8_joinedAt_82 (by decide) (fun c82 => ?_) (fun c82 => ?_)
              · exfalso
                have c82 : 1 = 0 := zk_eq (by omega) (by omega) c82
                exact absurd c82 (by decide)
              have c82 : 1 ≠ 0 := zk_neq (by omega) (by omega) c82
              refine lv_iconst (v := nI 1) Z.1 Z.2.1 dX8_joinedAt_85 (by decide +kernel) ?_
              refine lv_iload Z.1 Z.2.1 dX8_joinedAt_86 (lv_at hl 7 rfl) ?_
              refine zk_ishl Z dX8_joinedAt_88 (z := nI (2 ^ p)) (zw_1 (by omega)) ?_
              refine lv_iconst (v := nI 1) Z.1 Z.2.1 dX8_joinedAt_89 (by decide +kernel) ?_
              refine lv_iload Z.1 Z.2.1 dX8_joinedAt_90 (lv_at hl 8 rfl) ?_
              refine zk_ishl Z dX8_joinedAt_92 (z := nI (2 ^ q)) (zw_1 (by omega)) ?_
              refine zk_ior Z dX8_joinedAt_93 (z := nI (2 ^ p ||| 2 ^ q)) (zw_or _ _) ?_
              refine lv_goto (tgt := 98) Z.1 Z.2.1 dX8_joinedAt_94 (by decide) ?_
              refine zk_ior Z dX8_joinedAt_98 (z := nI (zm_jq (fun p9 q9 => zs_meet tl ev M (zm_S M) (zm_R M) (M 21) p9 q9 t) p (zm_jp (fun p9 q9 => zs_meet tl ev M (zm_S M) (zm_R M) (M 21) p9 q9 t) n y p) (q + 1))) ((zw_or _ _).trans (congrArg nI (zm_jq_y h6 (by rw [c57]; exact Bool.or_true _) c69))) ?_
              refine lv_istore_n (lv' := [(3, .int (nI (zm_jq (fun p9 q9 => zs_meet tl ev M (zm_S M) (zm_R M) (M 21) p9 q9 t) p (zm_jp (fun p9 q9 => zs_meet tl ev M (zm_S M) (zm_R M) (M 21) p9 q9 t) n y p) (q + 1)))), (8, .int (nI 1)), (0, .ref (b 100)), (1, .int (nI w)), (2, .int (nI t)), (4, .int (nI mo)), (5, .int (nI y)), (6, .int (nI p)), (7, .int (nI q))]) Z.1 Z.2.1 dX8_joinedAt_99 rfl hl (by decide) rfl (fun ls hl => ?_)
              refine lv_iinc (v := nI (q + 1)) (lv' := [(7, .int (nI (q + 1))), (3, .int (nI (zm_jq (fun p9 q9 => zs_meet tl ev M (zm_S M) (zm_R M) (M 21) p9 q9 t) p (zm_jp (fun p9 q9 => zs_meet tl ev M (zm_S M) (zm_R M) (M 21) p9 q9 t) n y p) (q + 1)))), (8, .int (nI 1)), (0, .ref (b 100)), (1, .int (nI w)), (2, .int (nI t)), (4, .int (nI mo)), (5, .int (nI y)), (6, .int (nI p))]) Z.1 Z.2.1 dX8_joinedAt_100 hl (k := 8) rfl (zk_inc q 1) (by decide) rfl (fun ls hl => ?_)
              refine lv_goto (tgt := 33) Z.1 Z.2.1 dX8_joinedAt_103 (by decide) ?_
              exact ih33 (q + 1) (by omega) (by omega) (by omega) _ _ _ G (lv_sub hl [3, 4, 5, 1, 6, 7, 8, 0] rfl)
          exact L33 _ (p + 1) (Nat.lt_succ_self _) (by omega) (by omega) _ _ _ G (lv_sub hl [1, 2, 3, 4, 5, 6, 7, 0] rfl)
      exact L18 _ 0 (Nat.lt_succ_self _) (by omega) _ _ _ G (lv_sub hl [2, 3, 4, 5, 6, 1, 0] rfl)
  exact L7 _ (2 ^ w) 1 (Nat.lt_succ_self _) (by exact zw_p2 (by omega)) (by decide) (by intro h9; exact absurd h9 (by decide)) (by intro _; exact hV.symm) _ _ _ G (lv_sub hl [2, 3, 4, 1, 0] rfl)

abbrev rm_X8_joined : Room := { frames := 51, cells := 0, slots := 0, locals := 2774 }
theorem dvX8_joined : zk_dv yX8_joined RX8 2 := by decide +kernel
theorem gmX8_joined_X8_isWorld : GoodIn wmX8_joined (wsV RX8 101 RX8 yX8_isWorld wmX8_isWorld) := goodIn_app (wa8_w (List.forall_mem_cons.mpr ⟨wa8_45, List.forall_mem_cons.mpr ⟨wa8_46, List.forall_mem_cons.mpr ⟨wa8_47, List.forall_mem_cons.mpr ⟨wa8_43, fun _ h => absurd h List.not_mem_nil⟩⟩⟩⟩)) (wa8_sub wa8_39)
theorem gmX8_joined_X8_isStep : GoodIn wmX8_joined (va_wsS RX8 153 yX8_isStep wmX8_isStep) := goodIn_app (wa8_w (List.forall_mem_cons.mpr ⟨wa8_94, List.forall_mem_cons.mpr ⟨wa8_95, List.forall_mem_cons.mpr ⟨wa8_43, fun _ h => absurd h List.not_mem_nil⟩⟩⟩)) (wa8_sub wa8_48)
theorem gmX8_joined_X8_asksSights : GoodIn wmX8_joined (wsV RX8 226 RX8 yX8_asksSights wmX8_asksSights) := goodIn_app (wa8_w (List.forall_mem_cons.mpr ⟨wa8_169, List.forall_mem_cons.mpr ⟨wa8_170, List.forall_mem_cons.mpr ⟨wa8_171, List.forall_mem_cons.mpr ⟨wa8_43, fun _ h => absurd h List.not_mem_nil⟩⟩⟩⟩)) (wa8_sub wa8_150)
theorem gmX8_joined_X8_joinedAt : GoodIn wmX8_joined (wsV RX8 237 RX8 yX8_joinedAt wmX8_joinedAt) := goodIn_app (wa8_w (List.forall_mem_cons.mpr ⟨wa8_180, List.forall_mem_cons.mpr ⟨wa8_181, List.forall_mem_cons.mpr ⟨wa8_182, List.forall_mem_cons.mpr ⟨wa8_43, fun _ h => absurd h List.not_mem_nil⟩⟩⟩⟩)) (wa8_sub wa8_176)
set_option maxRecDepth 100000 in
set_option maxHeartbeats 400000 in
theorem ct_X8_joined (l : Launch) (D : va_G) (g : Nat → ClassId) (τ : Nat → Nat) (b : Nat → Nat) (m : Nat → Int32) (sb : Int32) (sa : Int32) (se : Int32) (sf : Int32) (sq : Int32) (tn : Nat) (tl : Bool) (ev : (Nat → Int32) → Int32) (n : Nat) (M : Nat → Nat) (TP : Nat → Nat) (TX : Nat → Nat) (NM : Nat → Int32) (SN : Nat → Int32) (PR : Nat → Nat) (w : Int32) (t : Int32) (hev : zm_evh tl tn TX ev) (hW : zs_W n M (zm_S M)) (hh : M 21 ≤ 180) : zk_MI l D g τ yX8_joined wmX8_joined rm_X8_joined [.ref (b 100), .int w, .int t] [(b 100, .inr (8, [.ref (b 0), .ref (b 1), .ref (b 2), .ref (b 3), .int (m 4), .int (m 5), .int (nI n), .int (m 7), .ref (b 8), .int (m 9), .ref (b 10), .int (zm_tn tl tn), .int sb, .int sa, .int se, .int sf, .int sq, .ref (b 17), .ref (b 18), .ref (b 19), .ref (b 20), .ref (b 21), .ref (b 22), .ref (b 23), .ref (b 24), .int (m 25), .int (m 26), .int (m 27), .int (m 28), .ref (b 29), .ref (b 30), .int (m 31), .int (m 32), .int (m 33), .int (m 34), .int (m 35), .ref (b 36), .ref (b 37), .int (m 38), .ref (b 39), .ref (b 40), .int (m 41), .int (m 42), .int (m 43), .ref (b 44), .ref (b 45), .ref (b 46), .ref (b 47)])), (b 0, .inl (g 0, 23, .inl (fun i => nI (M i)))), (b 8, .inl (g 0, 120, .inl (fun i => nI (TP i)))), (b 10, .inl (g 0, 120, .inl (fun i => nI (TX i)))), (b 17, .inl (g 0, 6, .inl NM)), (b 18, .inl (g 3, 6468, .inl SN)), (b 19, .inl (g 0, 49, .inl (fun i => nI (PR i))))] (fun (r : Int32) (uu : Int32 × Int32 × Int32 × Int32 × Int32 × (Nat → Int32) × (Nat → Int32) × (Nat → Nat)) => r = zm_joined n (zs_meet tl ev M (zm_S M) (zm_R M) (M 21)) w t) (fun (uu : Int32 × Int32 × Int32 × Int32 × Int32 × (Nat → Int32) × (Nat → Int32) × (Nat → Nat)) => [(b 100, .inr (8, [.ref (b 0), .ref (b 1), .ref (b 2), .ref (b 3), .int (m 4), .int (m 5), .int (nI n), .int (m 7), .ref (b 8), .int (m 9), .ref (b 10), .int (zm_tn tl tn), .int uu.1, .int uu.2.1, .int uu.2.2.1, .int uu.2.2.2.1, .int uu.2.2.2.2.1, .ref (b 17), .ref (b 18), .ref (b 19), .ref (b 20), .ref (b 21), .ref (b 22), .ref (b 23), .ref (b 24), .int (m 25), .int (m 26), .int (m 27), .int (m 28), .ref (b 29), .ref (b 30), .int (m 31), .int (m 32), .int (m 33), .int (m 34), .int (m 35), .ref (b 36), .ref (b 37), .int (m 38), .ref (b 39), .ref (b 40), .int (m 41), .int (m 42), .int (m 43), .ref (b 44), .ref (b 45), .ref (b 46), .ref (b 47)])), (b 0, .inl (g 0, 23, .inl (fun i => nI (M i)))), (b 8, .inl (g 0, 120, .inl (fun i => nI (TP i)))), (b 10, .inl (g 0, 120, .inl (fun i => nI (TX i)))), (b 17, .inl (g 0, 6, .inl uu.2.2.2.2.2.1)), (b 18, .inl (g 3, 6468, .inl uu.2.2.2.2.2.2.1)), (b 19, .inl (g 0, 49, .inl (fun i => nI (uu.2.2.2.2.2.2.2 i))))]) := by
  refine zk_of (av := [.ref (b 100), .int w, .int t]) (W0 := [(b 100, .inr (8, [.ref (b 0), .ref (b 1), .ref (b 2), .ref (b 3), .int (m 4), .int (m 5), .int (nI n), .int (m 7), .ref (b 8), .int (m 9), .ref (b 10), .int (zm_tn tl tn), .int sb, .int sa, .int se, .int sf, .int sq, .ref (b 17), .ref (b 18), .ref (b 19), .ref (b 20), .ref (b 21), .ref (b 22), .ref (b 23), .ref (b 24), .int (m 25), .int (m 26), .int (m 27), .int (m 28), .ref (b 29), .ref (b 30), .int (m 31), .int (m 32), .int (m 33), .int (m 34), .int (m 35), .ref (b 36), .ref (b 37), .int (m 38), .ref (b 39), .ref (b 40), .int (m 41), .int (m 42), .int (m 43), .ref (b 44), .ref (b 45), .ref (b 46), .ref (b 47)])), (b 0, .inl (g 0, 23, .inl (fun i => nI (M i)))), (b 8, .inl (g 0, 120, .inl (fun i => nI (TP i)))), (b 10, .inl (g 0, 120, .inl (fun i => nI (TX i)))), (b 17, .inl (g 0, 6, .inl NM)), (b 18, .inl (g 3, 6468, .inl SN)), (b 19, .inl (g 0, 49, .inl (fun i => nI (PR i))))]) (y := yX8_joined) (wd := wmX8_joined) (Qc := fun A => va_Qi (fun (r : Int32) (uu : Int32 × Int32 × Int32 × Int32 × Int32 × (Nat → Int32) × (Nat → Int32) × (Nat → Nat)) => r = zm_joined n (zs_meet tl ev M (zm_S M) (zm_R M) (M 21)) w t) (zk_B D g A (fun (uu : Int32 × Int32 × Int32 × Int32 × Int32 × (Nat → Int32) × (Nat → Int32) × (Nat → Nat)) => [(b 100, .inr (8, [.ref (b 0), .ref (b 1), .ref (b 2), .ref (b 3), .int (m 4), .int (m 5), .int (nI n), .int (m 7), .ref (b 8), .int (m 9), .ref (b 10), .int (zm_tn tl tn), .int uu.1, .int uu.2.1, .int uu.2.2.1, .int uu.2.2.2.1, .int uu.2.2.2.2.1, .ref (b 17), .ref (b 18), .ref (b 19), .ref (b 20), .ref (b 21), .ref (b 22), .ref (b 23), .ref (b 24), .int (m 25), .int (m 26), .int (m 27), .int (m 28), .ref (b 29), .ref (b 30), .int (m 31), .int (m 32), .int (m 33), .int (m 34), .int (m 35), .ref (b 36), .ref (b 37), .int (m 38), .ref (b 39), .ref (b 40), .int (m 41), .int (m 42), .int (m 43), .ref (b 44), .ref (b 45), .ref (b 46), .ref (b 47)])), (b 0, .inl (g 0, 23, .inl (fun i => nI (M i)))), (b 8, .inl (g 0, 120, .inl (fun i => nI (TP i)))), (b 10, .inl (g 0, 120, .inl (fun i => nI (TX i)))), (b 17, .inl (g 0, 6, .inl uu.2.2.2.2.2.1)), (b 18, .inl (g 3, 6468, .inl uu.2.2.2.2.2.2.1)), (b 19, .inl (g 0, 49, .inl (fun i => nI (uu.2.2.2.2.2.2.2 i))))])) A) (cc := cX8_joined) (maxL := 3) (ret := (some .int)) (own := RX8) (by decide) rfl rfl (Nat.le_of_ble_eq_true rfl) ?_
  intro pP eE sS mM args below meth cC aA ls qQ Z hR_ hlk hnm hK hT hA hQ G hl
  have hinX8 : ∀ w ∈ u_ws RX8 TX8 48, w ∈ wmX8_joined := wa8_in
  have hn := hW.1
  refine lv_aload_n Z.1 Z.2.1 dX8_joined_0 rfl (lv_at hl 0 rfl) ?_
  refine lv_iload_n Z.1 Z.2.1 dX8_joined_1 rfl (lv_at hl 1 rfl) ?_
  refine zk_ci (WF := fun (_ : Unit) => [(b 100, .inr (8, [.ref (b 0), .ref (b 1), .ref (b 2), .ref (b 3), .int (m 4), .int (m 5), .int (nI n), .int (m 7), .ref (b 8), .int (m 9), .ref (b 10), .int (zm_tn tl tn), .int sb, .int sa, .int se, .int sf, .int sq, .ref (b 17), .ref (b 18), .ref (b 19), .ref (b 20), .ref (b 21), .ref (b 22), .ref (b 23), .ref (b 24), .int (m 25), .int (m 26), .int (m 27), .int (m 28), .ref (b 29), .ref (b 30), .int (m 31), .int (m 32), .int (m 33), .int (m 34), .int (m 35), .ref (b 36), .ref (b 37), .int (m 38), .ref (b 39), .ref (b 40), .int (m 41), .int (m 42), .int (m 43), .ref (b 44), .ref (b 45), .ref (b 46), .ref (b 47)])), (b 0, .inl (g 0, 23, .inl (fun i => nI (M i)))), (b 8, .inl (g 0, 120, .inl (fun i => nI (TP i)))), (b 10, .inl (g 0, 120, .inl (fun i => nI (TX i)))), (b 17, .inl (g 0, 6, .inl NM)), (b 18, .inl (g 3, 6468, .inl SN)), (b 19, .inl (g 0, 49, .inl (fun i => nI (PR i))))]) (wr := [(b 0, .inl (g 0, 23, .inl (fun i => nI (M i)))), (b 8, .inl (g 0, 120, .inl (fun i => nI (TP i)))), (b 10, .inl (g 0, 120, .inl (fun i => nI (TX i)))), (b 17, .inl (g 0, 6, .inl NM)), (b 18, .inl (g 3, 6468, .inl SN)), (b 19, .inl (g 0, 49, .inl (fun i => nI (PR i))))]) ⟨rfl, rfl⟩ (zk_rv (As := [.int w]) (rest := []) (q0 := 0) (ci := 8) Z ((ct_X8_isWorld l D g τ b (upd (upd (upd (upd (upd (upd m 11 (zm_tn tl tn)) 12 sb) 13 sa) 14 se) 15 sf) 16 sq) n w (by omega)) sS.heap.size) hK hT hA G [0] rfl (by decide) rfl rfl gmX8_joined_X8_isWorld rfl dvX8_isWorld ⟨by decide, by decide⟩ rfl hl.1 rfl (Nat.le_of_ble_eq_true rfl) dX8_joined_2 ⟨Nat.zero_le _, Nat.zero_le _⟩) hA G [0] [1, 2, 3, 4, 5, 6] [6, 0, 1, 2, 3, 4, 5] rfl rfl (by decide) (by decide) (by decide) (fun _ => rfl) (fun r_2 _ H locs w_2 G => ?_)
  obtain rfl : r_2 = zk_b (zb_w n w) := w_2
  refine lv_if_eq (tgt := 15) Z.1 Z.2.1 dX8_joined_5 (by decide) (fun c5 => ?_) (fun c5 => ?_)
  · have c5 : (zb_w n w) = false := zk_b0.mp c5
    refine lv_iconst (v := (-1)) Z.1 Z.2.1 dX8_joined_15 (by decide +kernel) ?_
    exact zk_reti Z hR_ hlk hK hQ G (sb, sa, se, sf, sq, NM, SN, PR) (by simp only [zm_joined, c5, Bool.false_and, Bool.and_false]; rfl) rfl dX8_joined_16
  have c5 : (zb_w n w) = true := zk_b1.mp c5
  have c5_0 := c5
  obtain ⟨v, hv, rfl, hv2⟩ := zb_w_ex c5
  refine lv_iload_n Z.1 Z.2.1 dX8_joined_8 rfl (lv_at hl 2 rfl) ?_
  refine zk_ci (WF := fun (_ : Unit) => [(b 100, .inr (8, [.ref (b 0), .ref (b 1), .ref (b 2), .ref (b 3), .int (m 4), .int (m 5), .int (nI n), .int (m 7), .ref (b 8), .int (m 9), .ref (b 10), .int (zm_tn tl tn), .int sb, .int sa, .int se, .int sf, .int sq, .ref (b 17), .ref (b 18), .ref (b 19), .ref (b 20), .ref (b 21), .ref (b 22), .ref (b 23), .ref (b 24), .int (m 25), .int (m 26), .int (m 27), .int (m 28), .ref (b 29), .ref (b 30), .int (m 31), .int (m 32), .int (m 33), .int (m 34), .int (m 35), .ref (b 36), .ref (b 37), .int (m 38), .ref (b 39), .ref (b 40), .int (m 41), .int (m 42), .int (m 43), .ref (b 44), .ref (b 45), .ref (b 46), .ref (b 47)])), (b 0, .inl (g 0, 23, .inl (fun i => nI (M i)))), (b 8, .inl (g 0, 120, .inl (fun i => nI (TP i)))), (b 10, .inl (g 0, 120, .inl (fun i => nI (TX i)))), (b 17, .inl (g 0, 6, .inl NM)), (b 18, .inl (g 3, 6468, .inl SN)), (b 19, .inl (g 0, 49, .inl (fun i => nI (PR i))))]) (wr := [(b 100, .inr (8, [.ref (b 0), .ref (b 1), .ref (b 2), .ref (b 3), .int (m 4), .int (m 5), .int (nI n), .int (m 7), .ref (b 8), .int (m 9), .ref (b 10), .int (zm_tn tl tn), .int sb, .int sa, .int se, .int sf, .int sq, .ref (b 17), .ref (b 18), .ref (b 19), .ref (b 20), .ref (b 21), .ref (b 22), .ref (b 23), .ref (b 24), .int (m 25), .int (m 26), .int (m 27), .int (m 28), .ref (b 29), .ref (b 30), .int (m 31), .int (m 32), .int (m 33), .int (m 34), .int (m 35), .ref (b 36), .ref (b 37), .int (m 38), .ref (b 39), .ref (b 40), .int (m 41), .int (m 42), .int (m 43), .ref (b 44), .ref (b 45), .ref (b 46), .ref (b 47)])), (b 0, .inl (g 0, 23, .inl (fun i => nI (M i)))), (b 8, .inl (g 0, 120, .inl (fun i => nI (TP i)))), (b 10, .inl (g 0, 120, .inl (fun i => nI (TX i)))), (b 17, .inl (g 0, 6, .inl NM)), (b 18, .inl (g 3, 6468, .inl SN)), (b 19, .inl (g 0, 49, .inl (fun i => nI (PR i))))]) ⟨rfl, rfl⟩ (zk_rs (As := [.int t]) (rest := []) Z ((ct_X8_isStep l D g τ t ) H.size) hK hT hA G [] rfl (by decide) gmX8_joined_X8_isStep rfl dvX8_isStep ⟨by decide, by decide⟩ rfl hl.1 rfl (Nat.le_of_ble_eq_true rfl) dX8_joined_9 ⟨Nat.zero_le _, Nat.zero_le _⟩) hA G [] [0, 1, 2, 3, 4, 5, 6] [0, 1, 2, 3, 4, 5, 6] rfl rfl (by decide) (by decide) (by decide) (fun _ => rfl) (fun r_9 _ H locs w_9 G => ?_)
  obtain rfl : r_9 = zk_b (zb_s t) := w_9
  refine lv_if_ne (tgt := 17) Z.1 Z.2.1 dX8_joined_12 (by decide) (fun c12 => ?_) (fun c12 => ?_)
  · have c12 : (zb_s t) = true := zk_b1.mp c12
    have c12_0 := c12
    obtain ⟨u, hu, rfl, hu2⟩ := zb_s_ex c12
    refine lv_aload_n Z.1 Z.2.1 dX8_joined_17 rfl (lv_at hl 0 rfl) ?_
    refine lv_aload_n Z.1 Z.2.1 dX8_joined_18 rfl (lv_at hl 0 rfl) ?_
    refine zk_get (C := RX8) (T := TX8) (N := 48) (ci := 8) Z hK G hinX8 0 rfl rfl 6 (by decide) (List.mem_cons_of_mem _ wa8_40) rfl (v := .int (nI n)) rfl dX8_joined_19 ?_
    refine zk_cv (WF := fun uu => [(b 100, .inr (8, [.ref (b 0), .ref (b 1), .ref (b 2), .ref (b 3), .int ((upd m 6 (nI n)) 4), .int ((upd m 6 (nI n)) 5), .int ((upd m 6 (nI n)) 6), .int ((upd m 6 (nI n)) 7), .ref (b 8), .int ((upd m 6 (nI n)) 9), .ref (b 10), .int (zm_tn tl tn), .int uu.1, .int uu.2.1, .int uu.2.2.1, .int uu.2.2.2.1, .int uu.2.2.2.2.1, .ref (b 17), .ref (b 18), .ref (b 19), .ref (b 20), .ref (b 21), .ref (b 22), .ref (b 23), .ref (b 24), .int ((upd m 6 (nI n)) 25), .int ((upd m 6 (nI n)) 26), .int ((upd m 6 (nI n)) 27), .int ((upd m 6 (nI n)) 28), .ref (b 29), .ref (b 30), .int ((upd m 6 (nI n)) 31), .int ((upd m 6 (nI n)) 32), .int ((upd m 6 (nI n)) 33), .int ((upd m 6 (nI n)) 34), .int ((upd m 6 (nI n)) 35), .ref (b 36), .ref (b 37), .int ((upd m 6 (nI n)) 38), .ref (b 39), .ref (b 40), .int ((upd m 6 (nI n)) 41), .int ((upd m 6 (nI n)) 42), .int ((upd m 6 (nI n)) 43), .ref (b 44), .ref (b 45), .ref (b 46), .ref (b 47)])), (b 0, .inl (g 0, 23, .inl (fun i => nI (M i)))), (b 8, .inl (g 0, 120, .inl (fun i => nI (TP i)))), (b 10, .inl (g 0, 120, .inl (fun i => nI (TX i)))), (b 17, .inl (g 0, 6, .inl uu.2.2.2.2.2.1)), (b 18, .inl (g 3, 6468, .inl uu.2.2.2.2.2.2.1)), (b 19, .inl (g 0, 49, .inl (fun i => nI (uu.2.2.2.2.2.2.2 i))))]) (wr := []) ⟨rfl, rfl⟩ (zk_rv (As := [.int (nI n)]) (rest := []) (q0 := 0) (ci := 8) Z ((ct_X8_asksSights l D g τ b (upd m 6 (nI n)) sb sa se sf sq tn tl ev n M TP TX NM SN PR (by exact hev) (by exact hW) (by exact hh)) H.size) hK hT hA G [0, 1, 2, 3, 4, 5, 6] rfl (by decide) rfl rfl gmX8_joined_X8_asksSights rfl dvX8_asksSights ⟨by decide, by decide⟩ rfl hl.1 rfl (Nat.le_of_ble_eq_true rfl) dX8_joined_22 ⟨Nat.zero_le _, Nat.zero_le _⟩) hA G [0, 1, 2, 3, 4, 5, 6] [] [0, 1, 2, 3, 4, 5, 6] rfl rfl (by decide) (by decide) (by decide) (fun _ => rfl) (fun uu H locs w_22 G => ?_)
    obtain ⟨sb1_22, sa1_22, se1_22, sf1_22, sq1_22, NM1_22, SN1_22, PR1_22⟩ := uu
    have G : zk_G D aA [(b 100, .inr (8, [.ref (b 0), .ref (b 1), .ref (b 2), .ref (b 3), .int (m 4), .int (m 5), .int (nI n), .int (m 7), .ref (b 8), .int (m 9), .ref (b 10), .int (zm_tn tl tn), .int sb1_22, .int sa1_22, .int se1_22, .int sf1_22, .int sq1_22, .ref (b 17), .ref (b 18), .ref (b 19), .ref (b 20), .ref (b 21), .ref (b 22), .ref (b 23), .ref (b 24), .int (m 25), .int (m 26), .int (m 27), .int (m 28), .ref (b 29), .ref (b 30), .int (m 31), .int (m 32), .int (m 33), .int (m 34), .int (m 35), .ref (b 36), .ref (b 37), .int (m 38), .ref (b 39), .ref (b 40), .int (m 41), .int (m 42), .int (m 43), .ref (b 44), .ref (b 45), .ref (b 46), .ref (b 47)])), (b 0, .inl (g 0, 23, .inl (fun i => nI (M i)))), (b 8, .inl (g 0, 120, .inl (fun i => nI (TP i)))), (b 10, .inl (g 0, 120, .inl (fun i => nI (TX i)))), (b 17, .inl (g 0, 6, .inl NM1_22)), (b 18, .inl (g 3, 6468, .inl SN1_22)), (b 19, .inl (g 0, 49, .inl (fun i => nI (PR1_22 i))))] sS H locs := G
    refine lv_aload_n Z.1 Z.2.1 dX8_joined_25 rfl (lv_at hl 0 rfl) ?_
    refine lv_iload_n Z.1 Z.2.1 dX8_joined_26 rfl (lv_at hl 1 rfl) ?_
    refine lv_iload_n Z.1 Z.2.1 dX8_joined_27 rfl (lv_at hl 2 rfl) ?_
    refine zk_ci (WF := fun (_ : Unit) => [(b 100, .inr (8, [.ref (b 0), .ref (b 1), .ref (b 2), .ref (b 3), .int (m 4), .int (m 5), .int (nI n), .int (m 7), .ref (b 8), .int (m 9), .ref (b 10), .int (zm_tn tl tn), .int sb1_22, .int sa1_22, .int se1_22, .int sf1_22, .int sq1_22, .ref (b 17), .ref (b 18), .ref (b 19), .ref (b 20), .ref (b 21), .ref (b 22), .ref (b 23), .ref (b 24), .int (m 25), .int (m 26), .int (m 27), .int (m 28), .ref (b 29), .ref (b 30), .int (m 31), .int (m 32), .int (m 33), .int (m 34), .int (m 35), .ref (b 36), .ref (b 37), .int (m 38), .ref (b 39), .ref (b 40), .int (m 41), .int (m 42), .int (m 43), .ref (b 44), .ref (b 45), .ref (b 46), .ref (b 47)])), (b 0, .inl (g 0, 23, .inl (fun i => nI (M i)))), (b 8, .inl (g 0, 120, .inl (fun i => nI (TP i)))), (b 10, .inl (g 0, 120, .inl (fun i => nI (TX i)))), (b 17, .inl (g 0, 6, .inl NM1_22)), (b 18, .inl (g 3, 6468, .inl SN1_22)), (b 19, .inl (g 0, 49, .inl (fun i => nI (PR1_22 i))))]) (wr := [(b 0, .inl (g 0, 23, .inl (fun i => nI (M i)))), (b 8, .inl (g 0, 120, .inl (fun i => nI (TP i)))), (b 10, .inl (g 0, 120, .inl (fun i => nI (TX i)))), (b 17, .inl (g 0, 6, .inl NM1_22))]) ⟨rfl, rfl⟩ (zk_rv (As := [.int (nI v), .int (nI u)]) (rest := []) (q0 := 0) (ci := 8) Z ((ct_X8_joinedAt l D g τ b (upd (upd (upd (upd (upd (upd m 11 (zm_tn tl tn)) 12 sb1_22) 13 sa1_22) 14 se1_22) 15 sf1_22) 16 sq1_22) tl ev n M SN1_22 PR1_22 v u (by exact hW) (by exact w_22) (by exact hv2) (by omega)) H.size) hK hT hA G [0, 5, 6] rfl (by decide) rfl rfl gmX8_joined_X8_joinedAt rfl dvX8_joinedAt ⟨by decide, by decide⟩ rfl hl.1 rfl (Nat.le_of_ble_eq_true rfl) dX8_joined_28 ⟨Nat.zero_le _, Nat.zero_le _⟩) hA G [0, 5, 6] [1, 2, 3, 4] [4, 0, 1, 2, 3, 5, 6] rfl rfl (by decide) (by decide) (by decide) (fun _ => rfl) (fun r_28 _ H locs w_28 G => ?_)
    obtain rfl : r_28 = nI (zm_jr (fun p9 q9 => zs_meet tl ev M (zm_S M) (zm_R M) (M 21) p9 q9 u) n 128 (2 ^ v)) := w_28
    exact zk_reti Z hR_ hlk hK hQ G (sb1_22, sa1_22, se1_22, sf1_22, sq1_22, NM1_22, SN1_22, PR1_22) (by simp only [zm_joined, c5_0, c12_0, zb_nat hv, zb_nat hu]; rfl) rfl dX8_joined_31
  have c12 : (zb_s t) = false := zk_b0.mp c12
  refine lv_iconst (v := (-1)) Z.1 Z.2.1 dX8_joined_15 (by decide +kernel) ?_
  exact zk_reti Z hR_ hlk hK hQ G (sb, sa, se, sf, sq, NM, SN, PR) (by simp only [zm_joined, c12, Bool.false_and, Bool.and_false]; rfl) rfl dX8_joined_16
