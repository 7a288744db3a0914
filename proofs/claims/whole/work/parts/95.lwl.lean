/-! The law's loop. -/
theorem lw_I_s {pic : Bool} {storm : Nat} {chance : Int32} {kc : Nat} {kv : Nat} {kn : Nat} {km : Nat} {sz : Nat} {ns : Nat} {ln : Nat} {p9 : Nat} {ft : Int32} {tp : Nat → Nat} {nm : Nat → Int32} {stk : Nat → Int32} {C : Nat → Nat} {X : Nat → Nat} {CN : Nat → Nat} {XN : Nat → Nat} {n : Nat} {hide : Nat} {ver : Nat} {ew : Int32} {ek : Bool} {P : Nat → Nat} {S : Nat → Nat} {Q : Nat → Nat} {T : Nat → Int32} {F : Nat → Nat} {lw : Int32} {lf : Int32} {bs : Int32} {bw : Int32} {we : Bool} {wo : Int32} {wv : Int32} {ro : Int32} {rv : Int32} {ko : Nat} {kr : Nat} {WD : Nat → Nat} {NE : Nat → Nat} {OW : Nat → Nat} {RE : Nat → Nat} {d : Nat} {z : Nat} {N : Nat → Nat} {A1 : Nat → Nat} {O1 : Nat → Nat} {FN : Nat → Nat} {nw : Nat} {m1 : Nat} {Sn : Nat → Nat} {Tg : Nat → Nat} {Hd : Nat → Int32} {Av : Nat → Int32} {Ld : Nat → Nat} {nw2 : Nat} {m2 : Nat} {Sn2 : Nat → Nat} {Tg2 : Nat → Nat} {Hd2 : Nat → Int32} {Av2 : Nat → Int32} {Ld2 : Nat → Nat} {zr : Nat} {rn : Nat} {nb : Int32} {TR : Nat → Nat} {KD : Nat → Nat} {srt : Nat → Int32} {lns : Nat → Nat} {rls : Nat → Int32} {Its : Nat → Nat → Int64} {M : Nat → Nat} {CA : Nat → Nat} {CW : Nat → Nat} {CI : Nat → Nat} {tn : Nat} {qb : Int32} {qa : Int32} {qe : Int32} {qf : Int32} {qo : Int32} {TX : Nat → Nat} {NM : Nat → Int32} {SN : Nat → Int32} {PR : Nat → Nat} {ST : Nat → Nat} {HA : Nat → Nat} {FW : Nat → Nat} {ZF : Nat → Nat} {ZT : Nat → Nat} {fw : Int32} {fs : Int32} {os : Int32} {MS : Nat → Int32} {HD : Nat → Nat} {z9 : Int32} {iw : Nat} {inow : Nat} {im : Nat} {IM : Nat → Int32} {IH : Nat → Nat} {ow : Int32} {nb8 : Int32} {SH : Nat → Int32} {MN : Nat → Nat} {IT : Nat → Int64} {CR : Nat → Int64} {c : Nat} (hI : lw_I c pic storm chance kc kv kn km sz ns ln p9 ft tp nm stk C X CN XN n hide ver ew ek P S Q T F lw lf bs bw we wo wv ro rv ko kr WD NE OW RE d z N A1 O1 FN nw m1 Sn Tg Hd Av Ld nw2 m2 Sn2 Tg2 Hd2 Av2 Ld2 zr rn nb TR KD srt lns rls Its M CA CW CI tn qb qa qe qf qo TX NM SN PR ST HA FW ZF ZT fw fs os MS HD z9 iw inow im IM IH ow nb8 SH MN IT CR) : lw_I (c + 1) pic storm chance kc kv kn km sz ns ln p9 ft tp nm stk C X CN XN n hide ver ew ek P S Q T F lw lf bs bw we wo wv ro rv ko kr WD NE OW RE d z N A1 O1 FN nw m1 Sn Tg Hd Av Ld nw2 m2 Sn2 Tg2 Hd2 Av2 Ld2 zr rn nb TR KD srt lns rls Its M CA CW CI tn qb qa qe qf qo TX NM SN PR ST HA FW ZF ZT fw fs os MS HD z9 iw inow im IM IH ow nb8 SH MN IT CR := by
  obtain ⟨hD, hCh, hwf, hevh, hln, htp, hok, hek, hcw, hcr, hvr, hnw, hnw2, hMs, hLd, hPi, hiw, hzr, hrn, hKD, hSS⟩ := hI
  exact ⟨hD, hCh, hwf, hevh, hln, htp, hok, hek, hcw, hcr, (by omega), (by omega), (by omega), hMs, hLd, hPi, hiw, hzr, hrn, hKD, hSS⟩
theorem lw_cmpI {L i : Nat} (hL : L ≤ 3072) (hi : i ≤ 4000) : (nI L - nI 6 < nI i ↔ ¬ i + 6 ≤ L) := by
  by_cases h : 6 ≤ L
  · rw [pk_sub h, nI_ltI (by omega) (by omega)]; omega
  · have h1 : nI L - nI 6 < 0 := by
      rcases (by omega : L = 0 ∨ L = 1 ∨ L = 2 ∨ L = 3 ∨ L = 4 ∨ L = 5) with e | e | e | e | e | e <;> subst e <;> decide
    have h2 : 0 ≤ nI i := nI_pos' (by omega)
    constructor
    · intro _; omega
    · intro _; exact Int32.lt_of_lt_of_le h1 h2
set_option maxRecDepth 100000 in
set_option maxHeartbeats 2000000 in
theorem lw_loop {l : Launch} {D : va_G} {g : Nat → ClassId} {τ : Nat → Nat} {pP : Program} {eE : Env} {sS : State} {mM : MethodId} {below : List Frame} {meth : Method} {cC : Code} {sc L : Nat} {xs : Nat → Int32} (m : Nat → Int32) {a b : Nat → Nat} (Z : CallFix pP mM cC code 4 sS #[Value.ref sc] lw_tbl RL) (hK : va_K D vwCl (zk_TY g) sS) (hT : zk_ST τ (fun q : Nat => sS.heap.size ≤ q) sS sS.heap) (hA : ∀ q, sS.heap.size ≤ q → (fun q : Nat => sS.heap.size ≤ q) q) (hX : va_X sc L xs sS sS.heap) (hbl : sc < sS.heap.size) (hbA : ¬ (fun q : Nat => sS.heap.size ≤ q) sc) (hL : L ≤ 3072) (hr : meth.sig.returnType = ret) (hlocks : meth.locks = false) : ∀ (f c : Nat), 6 * c ≤ L → L < 6 * (c + f) → ∀ (pic : Bool) (storm : Nat) (chance : Int32) (kc : Nat) (kv : Nat) (kn : Nat) (km : Nat) (sz : Nat) (ns : Nat) (ln : Nat) (p9 : Nat) (ft : Int32) (tp : Nat → Nat) (nm : Nat → Int32) (stk : Nat → Int32) (C : Nat → Nat) (X : Nat → Nat) (CN : Nat → Nat) (XN : Nat → Nat) (n : Nat) (hide : Nat) (ver : Nat) (ew : Int32) (ek : Bool) (P : Nat → Nat) (S : Nat → Nat) (Q : Nat → Nat) (T : Nat → Int32) (F : Nat → Nat) (lw : Int32) (lf : Int32) (bs : Int32) (bw : Int32) (we : Bool) (wo : Int32) (wv : Int32) (ro : Int32) (rv : Int32) (ko : Nat) (kr : Nat) (WD : Nat → Nat) (NE : Nat → Nat) (OW : Nat → Nat) (RE : Nat → Nat) (d : Nat) (z : Nat) (N : Nat → Nat) (A1 : Nat → Nat) (O1 : Nat → Nat) (FN : Nat → Nat) (nw : Nat) (m1 : Nat) (Sn : Nat → Nat) (Tg : Nat → Nat) (Hd : Nat → Int32) (Av : Nat → Int32) (Ld : Nat → Nat) (nw2 : Nat) (m2 : Nat) (Sn2 : Nat → Nat) (Tg2 : Nat → Nat) (Hd2 : Nat → Int32) (Av2 : Nat → Int32) (Ld2 : Nat → Nat) (zr : Nat) (rn : Nat) (nb : Int32) (TR : Nat → Nat) (KD : Nat → Nat) (srt : Nat → Int32) (lns : Nat → Nat) (rls : Nat → Int32) (Its : Nat → Nat → Int64) (M : Nat → Nat) (CA : Nat → Nat) (CW : Nat → Nat) (CI : Nat → Nat) (tn : Nat) (qb : Int32) (qa : Int32) (qe : Int32) (qf : Int32) (qo : Int32) (TX : Nat → Nat) (NM : Nat → Int32) (SN : Nat → Int32) (PR : Nat → Nat) (ST : Nat → Nat) (HA : Nat → Nat) (FW : Nat → Nat) (ZF : Nat → Nat) (ZT : Nat → Nat) (fw : Int32) (fs : Int32) (os : Int32) (MS : Nat → Int32) (HD : Nat → Nat) (z9 : Int32) (iw : Nat) (inow : Nat) (im : Nat) (IM : Nat → Int32) (IH : Nat → Nat) (ow : Int32) (nb8 : Int32) (SH : Nat → Int32) (MN : Nat → Nat) (IT : Nat → Int64) (CR : Nat → Int64) (H : Heap) (locs : List Loc) (ls : Array Slot), lw_I c pic storm chance kc kv kn km sz ns ln p9 ft tp nm stk C X CN XN n hide ver ew ek P S Q T F lw lf bs bw we wo wv ro rv ko kr WD NE OW RE d z N A1 O1 FN nw m1 Sn Tg Hd Av Ld nw2 m2 Sn2 Tg2 Hd2 Av2 Ld2 zr rn nb TR KD srt lns rls Its M CA CW CI tn qb qa qe qf qo TX NM SN PR ST HA FW ZF ZT fw fs os MS HD z9 iw inow im IM IH ow nb8 SH MN IT CR → zk_G D (fun q : Nat => sS.heap.size ≤ q) [(a 0, .inr (7, [.ref (a 1), .ref (a 2), .ref (a 3), .ref (a 4), .ref (a 50), .ref (a 60), .ref (a 7), .ref (a 8), .int (zk_b pic), .int (nI storm), .int chance])), (a 1, .inr (2, [.ref (a 10), .ref (a 11), .ref (a 12), .ref kc, .ref kv, .ref kn, .ref km, .int (nI sz), .int (nI ns), .int (nI ln), .int (nI p9), .int ft])), (a 10, .inl (g 0, 6, .inl nm)), (a 11, .inl (g 0, 120, .inl (fun i => nI (tp i)))), (a 12, .inl (g 0, 128, .inl stk)), (kc, .inl (g 0, 128, .inl (fun i => nI (C i)))), (kv, .inl (g 0, 128, .inl (fun i => nI (X i)))), (kn, .inl (g 0, 128, .inl (fun i => nI (CN i)))), (km, .inl (g 0, 128, .inl (fun i => nI (XN i)))), (a 2, .inr (5, [.ref (a 20), .ref (a 21), .ref (a 22), .int (nI n), .int (nI hide), .ref (a 1), .ref (a 23), .ref (a 24), .int (nI ver), .int ew, .int (zk_b ek)])), (a 20, .inl (g 0, 7, .inl (fun i => nI (P i)))), (a 21, .inl (g 0, 7, .inl (fun i => nI (S i)))), (a 22, .inl (g 0, 7, .inl (fun i => nI (Q i)))), (a 23, .inl (g 2, 3024, .inl T)), (a 24, .inl (g 0, 7, .inl (fun i => nI (F i)))), (a 3, .inr (6, [.int lw, .int lf, .int bs, .int bw, .ref (a 2), .int (zk_b we), .int wo, .int wv, .int ro, .int rv, .ref (a 30), .ref (a 31), .ref ko, .ref kr])), (a 30, .inl (g 0, 600, .inl (fun i => nI (WD i)))), (a 31, .inl (g 0, 3606, .inl (fun i => nI (NE i)))), (ko, .inl (g 0, 7, .inl (fun i => nI (OW i)))), (kr, .inl (g 0, 7, .inl (fun i => nI (RE i)))), (a 4, .inr (0, [.int (nI d), .int (nI z), .ref (a 40), .ref (a 41), .ref (a 42), .ref (a 43)])), (a 40, .inl (g 0, 40, .inl (fun i => nI (N i)))), (a 41, .inl (g 0, 40, .inl (fun i => nI (A1 i)))), (a 42, .inl (g 0, 40, .inl (fun i => nI (O1 i)))), (a 43, .inl (g 0, 40, .inl (fun i => nI (FN i)))), (a 50, .inr (1, [.int (nI nw), .int (nI m1), .ref (a 51), .ref (a 52), .ref (a 53), .ref (a 54), .ref (a 55)])), (a 51, .inl (g 0, 10, .inl (fun i => nI (Sn i)))), (a 52, .inl (g 0, 10, .inl (fun i => nI (Tg i)))), (a 53, .inl (g 0, 10, .inl Hd)), (a 54, .inl (g 0, 10, .inl Av)), (a 55, .inl (g 0, 6, .inl (fun i => nI (Ld i)))), (a 60, .inr (1, [.int (nI nw2), .int (nI m2), .ref (a 61), .ref (a 62), .ref (a 63), .ref (a 64), .ref (a 65)])), (a 61, .inl (g 0, 10, .inl (fun i => nI (Sn2 i)))), (a 62, .inl (g 0, 10, .inl (fun i => nI (Tg2 i)))), (a 63, .inl (g 0, 10, .inl Hd2)), (a 64, .inl (g 0, 10, .inl Av2)), (a 65, .inl (g 0, 6, .inl (fun i => nI (Ld2 i)))), (a 7, .inr (3, [.int (nI zr), .int (nI rn), .ref (a 70), .ref (a 71), .int nb])), (a 70, .inl (g 0, 24, .inl (fun i => nI (TR i)))), (a 71, .inl (g 0, 50, .inl (fun i => nI (KD i)))), (a 8, .inl (g 4, 6, .inr (.inr (.inr (.inr (zk_sf a)))))), (a 100, .inr (4, [.ref (a 110), .int (srt 0), .int (nI (lns 0)), .int (rls 0)])), (a 110, .inl (g 1, 60, .inr (.inl (Its 0)))), (a 101, .inr (4, [.ref (a 111), .int (srt 1), .int (nI (lns 1)), .int (rls 1)])), (a 111, .inl (g 1, 60, .inr (.inl (Its 1)))), (a 102, .inr (4, [.ref (a 112), .int (srt 2), .int (nI (lns 2)), .int (rls 2)])), (a 112, .inl (g 1, 60, .inr (.inl (Its 2)))), (a 103, .inr (4, [.ref (a 113), .int (srt 3), .int (nI (lns 3)), .int (rls 3)])), (a 113, .inl (g 1, 60, .inr (.inl (Its 3)))), (a 104, .inr (4, [.ref (a 114), .int (srt 4), .int (nI (lns 4)), .int (rls 4)])), (a 114, .inl (g 1, 60, .inr (.inl (Its 4)))), (a 105, .inr (4, [.ref (a 115), .int (srt 5), .int (nI (lns 5)), .int (rls 5)])), (a 115, .inl (g 1, 60, .inr (.inl (Its 5)))), (b 100, .inr (8, [.ref (b 0), .ref (b 1), .ref (b 2), .ref (b 3), .int (nI z), .int (nI d), .int (nI n), .int (nI nw), .ref (b 8), .int (nI ln), .ref (b 10), .int (zm_tn (decide (0 < sz)) tn), .int qb, .int qa, .int qe, .int qf, .int qo, .ref (b 17), .ref (b 18), .ref (b 19), .ref (b 20), .ref (b 21), .ref (b 22), .ref (b 23), .ref (b 24), .int fw, .int fs, .int os, .int (nI m1), .ref (b 29), .ref (b 30), .int z9, .int (zk_b pic), .int (nI iw), .int (nI inow), .int (nI im), .ref (b 36), .ref (b 37), .int (nI zr), .ref (b 39), .ref (b 40), .int (nI rn), .int ow, .int nb8, .ref (b 44), .ref (b 45), .ref (b 46), .ref (b 47)])), (b 0, .inl (g 0, 23, .inl (fun i => nI (M i)))), (b 1, .inl (g 0, 40, .inl (fun i => nI (CA i)))), (b 2, .inl (g 0, 40, .inl (fun i => nI (CW i)))), (b 3, .inl (g 0, 40, .inl (fun i => nI (CI i)))), (b 8, .inl (g 0, 120, .inl (fun i => nI (tp i)))), (b 10, .inl (g 0, 120, .inl (fun i => nI (TX i)))), (b 17, .inl (g 0, 6, .inl NM)), (b 18, .inl (g 3, 6468, .inl SN)), (b 19, .inl (g 0, 49, .inl (fun i => nI (PR i)))), (b 20, .inl (g 0, 4207, .inl (fun i => nI (ST i)))), (b 21, .inl (g 0, 4207, .inl (fun i => nI (HA i)))), (b 22, .inl (g 0, 4207, .inl (fun i => nI (FW i)))), (b 23, .inl (g 0, 7, .inl (fun i => nI (ZF i)))), (b 24, .inl (g 0, 7, .inl (fun i => nI (ZT i)))), (b 29, .inl (g 0, 40, .inl MS)), (b 30, .inl (g 0, 6, .inl (fun i => nI (HD i)))), (b 36, .inl (g 0, 40, .inl IM)), (b 37, .inl (g 0, 6, .inl (fun i => nI (IH i)))), (b 39, .inl (g 0, 50, .inl (fun i => nI (KD i)))), (b 40, .inl (g 0, 24, .inl (fun i => nI (TR i)))), (b 44, .inl (g 0, 6, .inl SH)), (b 45, .inl (g 0, 6, .inl (fun i => nI (MN i)))), (b 46, .inl (g 1, 360, .inr (.inl IT))), (b 47, .inl (g 1, 60, .inr (.inl CR)))] sS H locs → lv_has ls 4 [(3, .int (nI (6 * c))), (2, .ref (b 100)), (1, .ref (a 0)), (0, .ref sc)] → W pP l eE room_1 sS mM #[Value.ref sc] below meth cC H locs 600000 7302250 (lw_Z below #[Value.ref sc] sS) (F0 mM 18 ls []) := by
  intro f
  induction f with
  | zero => intro c h1 h2; exact absurd h2 (by omega)
  | succ f ih =>
    intro c h1 h2 pic storm chance kc kv kn km sz ns ln p9 ft tp nm stk C X CN XN n hide ver ew ek P S Q T F lw lf bs bw we wo wv ro rv ko kr WD NE OW RE d z N A1 O1 FN nw m1 Sn Tg Hd Av Ld nw2 m2 Sn2 Tg2 Hd2 Av2 Ld2 zr rn nb TR KD srt lns rls Its M CA CW CI tn qb qa qe qf qo TX NM SN PR ST HA FW ZF ZT fw fs os MS HD z9 iw inow im IM IH ow nb8 SH MN IT CR H locs ls hI G hl
    have hc9 : c < 513 := by omega
    refine lv_iload_n Z.1 Z.2.1 dL_law_18 rfl (lv_at hl 0 rfl) ?_
    refine lv_aload_n Z.1 Z.2.1 dL_law_19 rfl (lv_at hl 3 rfl) ?_
    refine va_slen Z.1 Z.2.1 hX hbl hbA G.2.2 dL_law_20 ?_
    refine lv_bipush (v := nI 6) Z.1 Z.2.1 dL_law_21 (by decide +kernel) ?_
    refine zk_isub Z dL_law_23 (z := nI L - nI 6) rfl ?_
    have hcm := lw_cmpI (L := L) (i := 6 * c) hL (by omega)
    refine lv_icmp_gt (tgt := 1580) Z.1 Z.2.1 dL_law_24 (by decide) (fun c9 => ?_) (fun c9 => ?_)
    · refine lv_iconst (v := nI 1) Z.1 Z.2.1 dL_law_1580 (by decide +kernel) ?_
      refine va_forget (fun q hq => G.2.2.2.2 q hq) ?_
      exact lw_ret Z.1 Z.2.1 hr hlocks dL_law_1581
    have hi9 : 6 * c + 6 ≤ L := Decidable.byContradiction (fun q => c9 (hcm.mpr q))
    have kk : lw_kk l g (c + 1) a b D (fun q : Nat => sS.heap.size ≤ q) sS pP eE mM sc below meth cC (lw_Z below #[Value.ref sc] sS) (6 * c) := by
      clear hI G hl
      intro pic1 storm1 chance1 kc1 kv1 kn1 km1 sz1 ns1 ln1 p91 ft1 tp1 nm1 stk1 C1 X1 CN1 XN1 n1 hide1 ver1 ew1 ek1 P1 S1 Q1 T1 F1 lw1 lf1 bs1 bw1 we1 wo1 wv1 ro1 rv1 ko1 kr1 WD1 NE1 OW1 RE1 d1 z1 N1 A11 O11 FN1 nw1 m11 Sn1 Tg1 Hd1 Av1 Ld1 nw21 m21 Sn21 Tg21 Hd21 Av21 Ld21 zr1 rn1 nb1 TR1 KD1 srt1 lns1 rls1 Its1 M1 CA1 CW1 CI1 tn1 qb1 qa1 qe1 qf1 qo1 TX1 NM1 SN1 PR1 ST1 HA1 FW1 ZF1 ZT1 fw1 fs1 os1 MS1 HD1 z91 iw1 inow1 im1 IM1 IH1 ow1 nb81 SH1 MN1 IT1 CR1 H1 locs1 ls1 hI G hl
      refine lv_iinc (v := nI (6 * (c + 1))) (lv' := [(3, .int (nI (6 * (c + 1)))), (2, .ref (b 100)), (1, .ref (a 0)), (0, .ref sc)]) Z.1 Z.2.1 dL_law_1574 hl (k := 0) rfl ((zk_inc (6 * c) 6).trans (congrArg nI (show 6 * c + 6 = 6 * (c + 1) by omega))) (by decide) rfl (fun ls hl => ?_)
      refine lv_goto (tgt := 18) Z.1 Z.2.1 dL_law_1577 (by decide) ?_
      exact ih (c + 1) (by omega) (by omega) pic1 storm1 chance1 kc1 kv1 kn1 km1 sz1 ns1 ln1 p91 ft1 tp1 nm1 stk1 C1 X1 CN1 XN1 n1 hide1 ver1 ew1 ek1 P1 S1 Q1 T1 F1 lw1 lf1 bs1 bw1 we1 wo1 wv1 ro1 rv1 ko1 kr1 WD1 NE1 OW1 RE1 d1 z1 N1 A11 O11 FN1 nw1 m11 Sn1 Tg1 Hd1 Av1 Ld1 nw21 m21 Sn21 Tg21 Hd21 Av21 Ld21 zr1 rn1 nb1 TR1 KD1 srt1 lns1 rls1 Its1 M1 CA1 CW1 CI1 tn1 qb1 qa1 qe1 qf1 qo1 TX1 NM1 SN1 PR1 ST1 HA1 FW1 ZF1 ZT1 fw1 fs1 os1 MS1 HD1 z91 iw1 inow1 im1 IM1 IH1 ow1 nb81 SH1 MN1 IT1 CR1 H1 locs1 ls hI G hl
    refine lv_aload_n Z.1 Z.2.1 dL_law_27 rfl (lv_at hl 3 rfl) ?_
    refine lv_iload_n Z.1 Z.2.1 dL_law_28 rfl (lv_at hl 0 rfl) ?_
    refine lw_rd Z.1 Z.2.1 hX hbl hbA G (k := 6 * c) (v := xs (6 * c)) (by omega) hL rfl dL_law_29 ?_
    refine lv_bipush (v := nI 63) Z.1 Z.2.1 dL_law_30 (by decide +kernel) ?_
    refine zk_iand Z dL_law_32 (z := xs (6 * c) &&& nI 63) rfl ?_
    generalize xs (6 * c) &&& nI 63 = y9
    by_cases c33_0 : y9 = nI 0
    · subst c33_0
      refine lv_tableIn (tgt := 216) Z.1 Z.2.1 dL_law_33 (by decide) (by decide) (by rfl) (by decide) ?_
      exact lwc_world m Z hK hT hA hX hbl hbA hL hi9 hc9 rfl rfl rfl rfl rfl hI G hl kk
    by_cases c33_1 : y9 = nI 1
    · subst c33_1
      refine lv_tableIn (tgt := 249) Z.1 Z.2.1 dL_law_33 (by decide) (by decide) (by rfl) (by decide) ?_
      exact lwc_worlds m Z hK hT hA hX hbl hbA hL hi9 hc9 rfl rfl rfl rfl rfl hI G hl kk
    by_cases c33_2 : y9 = nI 2
    · subst c33_2
      refine lv_tableIn (tgt := 292) Z.1 Z.2.1 dL_law_33 (by decide) (by decide) (by rfl) (by decide) ?_
      exact lwc_mend m Z hK hT hA hX hbl hbA hL hi9 hc9 rfl rfl rfl rfl rfl hI G hl kk
    by_cases c33_3 : y9 = nI 3
    · subst c33_3
      refine lv_tableIn (tgt := 335) Z.1 Z.2.1 dL_law_33 (by decide) (by decide) (by rfl) (by decide) ?_
      exact lwc_of m Z hK hT hA hX hbl hbA hL hi9 hc9 rfl rfl rfl rfl rfl hI G hl kk
    by_cases c33_4 : y9 = nI 4
    · subst c33_4
      refine lv_tableIn (tgt := 368) Z.1 Z.2.1 dL_law_33 (by decide) (by decide) (by rfl) (by decide) ?_
      exact lwc_feed m Z hK hT hA hX hbl hbA hL hi9 hc9 rfl rfl rfl rfl rfl hI G hl kk
    by_cases c33_5 : y9 = nI 5
    · subst c33_5
      refine lv_tableIn (tgt := 391) Z.1 Z.2.1 dL_law_33 (by decide) (by decide) (by rfl) (by decide) ?_
      exact lwc_law m Z hK hT hA hX hbl hbA hL hi9 hc9 rfl rfl rfl rfl rfl hI G hl kk
    by_cases c33_6 : y9 = nI 6
    · subst c33_6
      refine lv_tableIn (tgt := 404) Z.1 Z.2.1 dL_law_33 (by decide) (by decide) (by rfl) (by decide) ?_
      exact lwc_place m Z hK hT hA hX hbl hbA hL hi9 hc9 rfl rfl rfl rfl rfl hI G hl kk
    by_cases c33_7 : y9 = nI 7
    · subst c33_7
      refine lv_tableIn (tgt := 437) Z.1 Z.2.1 dL_law_33 (by decide) (by decide) (by rfl) (by decide) ?_
      exact lwc_sees m Z hK hT hA hX hbl hbA hL hi9 hc9 rfl rfl rfl rfl rfl hI G hl kk
    by_cases c33_8 : y9 = nI 8
    · subst c33_8
      refine lv_tableIn (tgt := 470) Z.1 Z.2.1 dL_law_33 (by decide) (by decide) (by rfl) (by decide) ?_
      exact lwc_sights m Z hK hT hA hX hbl hbA hL hi9 hc9 rfl rfl rfl rfl rfl hI G hl kk
    by_cases c33_9 : y9 = nI 9
    · subst c33_9
      refine lv_tableIn (tgt := 503) Z.1 Z.2.1 dL_law_33 (by decide) (by decide) (by rfl) (by decide) ?_
      exact lwc_blind m Z hK hT hA hX hbl hbA hL hi9 hc9 rfl rfl rfl rfl rfl hI G hl kk
    by_cases c33_10 : y9 = nI 10
    · subst c33_10
      refine lv_tableIn (tgt := 526) Z.1 Z.2.1 dL_law_33 (by decide) (by decide) (by rfl) (by decide) ?_
      exact lwc_next m Z hK hT hA hX hbl hbA hL hi9 hc9 rfl rfl rfl rfl rfl hI G hl kk
    by_cases c33_11 : y9 = nI 11
    · subst c33_11
      refine lv_tableIn (tgt := 559) Z.1 Z.2.1 dL_law_33 (by decide) (by decide) (by rfl) (by decide) ?_
      exact lwc_all m Z hK hT hA hX hbl hbA hL hi9 hc9 rfl rfl rfl rfl rfl hI G hl kk
    by_cases c33_12 : y9 = nI 12
    · subst c33_12
      refine lv_tableIn (tgt := 572) Z.1 Z.2.1 dL_law_33 (by decide) (by decide) (by rfl) (by decide) ?_
      exact lwc_joined m Z hK hT hA hX hbl hbA hL hi9 hc9 rfl rfl rfl rfl rfl hI G hl kk
    by_cases c33_13 : y9 = nI 13
    · subst c33_13
      refine lv_tableIn (tgt := 605) Z.1 Z.2.1 dL_law_33 (by decide) (by decide) (by rfl) (by decide) ?_
      exact lwc_lasts m Z hK hT hA hX hbl hbA hL hi9 hc9 rfl rfl rfl rfl rfl hI G hl kk
    by_cases c33_14 : y9 = nI 14
    · subst c33_14
      refine lv_tableIn (tgt := 638) Z.1 Z.2.1 dL_law_33 (by decide) (by decide) (by rfl) (by decide) ?_
      exact lwc_unheard m Z hK hT hA hX hbl hbA hL hi9 hc9 rfl rfl rfl rfl rfl hI G hl kk
    by_cases c33_15 : y9 = nI 15
    · subst c33_15
      refine lv_tableIn (tgt := 681) Z.1 Z.2.1 dL_law_33 (by decide) (by decide) (by rfl) (by decide) ?_
      exact lwc_beam m Z hK hT hA hX hbl hbA hL hi9 hc9 rfl rfl rfl rfl rfl hI G hl kk
    by_cases c33_16 : y9 = nI 16
    · subst c33_16
      refine lv_tableIn (tgt := 714) Z.1 Z.2.1 dL_law_33 (by decide) (by decide) (by rfl) (by decide) ?_
      exact lwc_soonest m Z hK hT hA hX hbl hbA hL hi9 hc9 rfl rfl rfl rfl rfl hI G hl kk
    by_cases c33_17 : y9 = nI 17
    · subst c33_17
      refine lv_tableIn (tgt := 747) Z.1 Z.2.1 dL_law_33 (by decide) (by decide) (by rfl) (by decide) ?_
      exact lwc_way m Z hK hT hA hX hbl hbA hL hi9 hc9 rfl rfl rfl rfl rfl hI G hl kk
    by_cases c33_18 : y9 = nI 18
    · subst c33_18
      refine lv_tableIn (tgt := 790) Z.1 Z.2.1 dL_law_33 (by decide) (by decide) (by rfl) (by decide) ?_
      exact lwc_hands m Z hK hT hA hX hbl hbA hL hi9 hc9 rfl rfl rfl rfl rfl hI G hl kk
    by_cases c33_19 : y9 = nI 19
    · subst c33_19
      refine lv_tableIn (tgt := 823) Z.1 Z.2.1 dL_law_33 (by decide) (by decide) (by rfl) (by decide) ?_
      exact lwc_waits m Z hK hT hA hX hbl hbA hL hi9 hc9 rfl rfl rfl rfl rfl hI G hl kk
    by_cases c33_20 : y9 = nI 20
    · subst c33_20
      refine lv_tableIn (tgt := 856) Z.1 Z.2.1 dL_law_33 (by decide) (by decide) (by rfl) (by decide) ?_
      exact lwc_relay m Z hK hT hA hX hbl hbA hL hi9 hc9 rfl rfl rfl rfl rfl hI G hl kk
    by_cases c33_21 : y9 = nI 21
    · subst c33_21
      refine lv_tableIn (tgt := 899) Z.1 Z.2.1 dL_law_33 (by decide) (by decide) (by rfl) (by decide) ?_
      exact lwc_safe m Z hK hT hA hX hbl hbA hL hi9 hc9 rfl rfl rfl rfl rfl hI G hl kk
    by_cases c33_22 : y9 = nI 22
    · subst c33_22
      refine lv_tableIn (tgt := 943) Z.1 Z.2.1 dL_law_33 (by decide) (by decide) (by rfl) (by decide) ?_
      exact lwc_judge m Z hK hT hA hX hbl hbA hL hi9 hc9 rfl rfl rfl rfl rfl hI G hl kk
    by_cases c33_23 : y9 = nI 23
    · subst c33_23
      refine lv_tableIn (tgt := 966) Z.1 Z.2.1 dL_law_33 (by decide) (by decide) (by rfl) (by decide) ?_
      exact lwc_stepped m Z hK hT hA hX hbl hbA hL hi9 hc9 rfl rfl rfl rfl rfl hI G hl kk
    by_cases c33_24 : y9 = nI 24
    · subst c33_24
      refine lv_tableIn (tgt := 1009) Z.1 Z.2.1 dL_law_33 (by decide) (by decide) (by rfl) (by decide) ?_
      exact lwc_whose m Z hK hT hA hX hbl hbA hL hi9 hc9 rfl rfl rfl rfl rfl hI G hl kk
    by_cases c33_25 : y9 = nI 25
    · subst c33_25
      refine lv_tableIn (tgt := 1032) Z.1 Z.2.1 dL_law_33 (by decide) (by decide) (by rfl) (by decide) ?_
      exact lwc_send m Z hK hT hA hX hbl hbA hL hi9 hc9 rfl rfl rfl rfl rfl hI G hl kk
    by_cases c33_26 : y9 = nI 26
    · subst c33_26
      refine lv_tableIn (tgt := 1055) Z.1 Z.2.1 dL_law_33 (by decide) (by decide) (by rfl) (by decide) ?_
      exact lwc_go m Z hK hT hA hX hbl hbA hL hi9 hc9 rfl rfl rfl rfl rfl hI G hl kk
    by_cases c33_27 : y9 = nI 27
    · subst c33_27
      refine lv_tableIn (tgt := 1088) Z.1 Z.2.1 dL_law_33 (by decide) (by decide) (by rfl) (by decide) ?_
      exact lwc_drawn m Z hK hT hA hX hbl hbA hL hi9 hc9 rfl rfl rfl rfl rfl hI G hl kk
    by_cases c33_28 : y9 = nI 28
    · subst c33_28
      refine lv_tableIn (tgt := 1131) Z.1 Z.2.1 dL_law_33 (by decide) (by decide) (by rfl) (by decide) ?_
      exact lwc_image m Z hK hT hA hX hbl hbA hL hi9 hc9 rfl rfl rfl rfl rfl hI G hl kk
    by_cases c33_29 : y9 = nI 29
    · subst c33_29
      refine lv_tableIn (tgt := 1144) Z.1 Z.2.1 dL_law_33 (by decide) (by decide) (by rfl) (by decide) ?_
      exact lwc_back m Z hK hT hA hX hbl hbA hL hi9 hc9 rfl rfl rfl rfl rfl hI G hl kk
    by_cases c33_30 : y9 = nI 30
    · subst c33_30
      refine lv_tableIn (tgt := 1157) Z.1 Z.2.1 dL_law_33 (by decide) (by decide) (by rfl) (by decide) ?_
      exact lwc_undo m Z hK hT hA hX hbl hbA hL hi9 hc9 rfl rfl rfl rfl rfl hI G hl kk
    by_cases c33_31 : y9 = nI 31
    · subst c33_31
      refine lv_tableIn (tgt := 1170) Z.1 Z.2.1 dL_law_33 (by decide) (by decide) (by rfl) (by decide) ?_
      exact lwc_redo m Z hK hT hA hX hbl hbA hL hi9 hc9 rfl rfl rfl rfl rfl hI G hl kk
    by_cases c33_32 : y9 = nI 32
    · subst c33_32
      refine lv_tableIn (tgt := 1183) Z.1 Z.2.1 dL_law_33 (by decide) (by decide) (by rfl) (by decide) ?_
      exact lwc_body m Z hK hT hA hX hbl hbA hL hi9 hc9 rfl rfl rfl rfl rfl hI G hl kk
    by_cases c33_33 : y9 = nI 33
    · subst c33_33
      refine lv_tableIn (tgt := 1206) Z.1 Z.2.1 dL_law_33 (by decide) (by decide) (by rfl) (by decide) ?_
      exact lwc_act m Z hK hT hA hX hbl hbA hL hi9 hc9 rfl rfl rfl rfl rfl hI G hl kk
    by_cases c33_34 : y9 = nI 34
    · subst c33_34
      refine lv_tableIn (tgt := 1249) Z.1 Z.2.1 dL_law_33 (by decide) (by decide) (by rfl) (by decide) ?_
      exact lwc_trace m Z hK hT hA hX hbl hbA hL hi9 hc9 rfl rfl rfl rfl rfl hI G hl kk
    by_cases c33_35 : y9 = nI 35
    · subst c33_35
      refine lv_tableIn (tgt := 1272) Z.1 Z.2.1 dL_law_33 (by decide) (by decide) (by rfl) (by decide) ?_
      exact lwc_keep m Z hK hT hA hX hbl hbA hL hi9 hc9 rfl rfl rfl rfl rfl hI G hl kk
    by_cases c33_36 : y9 = nI 36
    · subst c33_36
      refine lv_tableIn (tgt := 1305) Z.1 Z.2.1 dL_law_33 (by decide) (by decide) (by rfl) (by decide) ?_
      exact lwc_row m Z hK hT hA hX hbl hbA hL hi9 hc9 rfl rfl rfl rfl rfl hI G hl kk
    by_cases c33_37 : y9 = nI 37
    · subst c33_37
      refine lv_tableIn (tgt := 1348) Z.1 Z.2.1 dL_law_33 (by decide) (by decide) (by rfl) (by decide) ?_
      exact lwc_put m Z hK hT hA hX hbl hbA hL hi9 hc9 rfl rfl rfl rfl rfl hI G hl kk
    by_cases c33_38 : y9 = nI 38
    · subst c33_38
      refine lv_tableIn (tgt := 1421) Z.1 Z.2.1 dL_law_33 (by decide) (by decide) (by rfl) (by decide) ?_
      exact lwc_element m Z hK hT hA hX hbl hbA hL hi9 hc9 rfl rfl rfl rfl rfl hI G hl kk
    by_cases c33_39 : y9 = nI 39
    · subst c33_39
      refine lv_tableIn (tgt := 1455) Z.1 Z.2.1 dL_law_33 (by decide) (by decide) (by rfl) (by decide) ?_
      exact lwc_shift m Z hK hT hA hX hbl hbA hL hi9 hc9 rfl rfl rfl rfl rfl hI G hl kk
    by_cases c33_40 : y9 = nI 40
    · subst c33_40
      refine lv_tableIn (tgt := 1518) Z.1 Z.2.1 dL_law_33 (by decide) (by decide) (by rfl) (by decide) ?_
      exact lwc_taken m Z hK hT hA hX hbl hbA hL hi9 hc9 rfl rfl rfl rfl rfl hI G hl kk
    by_cases c33_41 : y9 = nI 41
    · subst c33_41
      refine lv_tableIn (tgt := 1551) Z.1 Z.2.1 dL_law_33 (by decide) (by decide) (by rfl) (by decide) ?_
      exact lwc_count m Z hK hT hA hX hbl hbA hL hi9 hc9 rfl rfl rfl rfl rfl hI G hl kk
    have c33_0' : ¬ y9.toInt = 0 := lv_neT c33_0 (by decide)
    have c33_1' : ¬ y9.toInt = 1 := lv_neT c33_1 (by decide)
    have c33_2' : ¬ y9.toInt = 2 := lv_neT c33_2 (by decide)
    have c33_3' : ¬ y9.toInt = 3 := lv_neT c33_3 (by decide)
    have c33_4' : ¬ y9.toInt = 4 := lv_neT c33_4 (by decide)
    have c33_5' : ¬ y9.toInt = 5 := lv_neT c33_5 (by decide)
    have c33_6' : ¬ y9.toInt = 6 := lv_neT c33_6 (by decide)
    have c33_7' : ¬ y9.toInt = 7 := lv_neT c33_7 (by decide)
    have c33_8' : ¬ y9.toInt = 8 := lv_neT c33_8 (by decide)
    have c33_9' : ¬ y9.toInt = 9 := lv_neT c33_9 (by decide)
    have c33_10' : ¬ y9.toInt = 10 := lv_neT c33_10 (by decide)
    have c33_11' : ¬ y9.toInt = 11 := lv_neT c33_11 (by decide)
    have c33_12' : ¬ y9.toInt = 12 := lv_neT c33_12 (by decide)
    have c33_13' : ¬ y9.toInt = 13 := lv_neT c33_13 (by decide)
    have c33_14' : ¬ y9.toInt = 14 := lv_neT c33_14 (by decide)
    have c33_15' : ¬ y9.toInt = 15 := lv_neT c33_15 (by decide)
    have c33_16' : ¬ y9.toInt = 16 := lv_neT c33_16 (by decide)
    have c33_17' : ¬ y9.toInt = 17 := lv_neT c33_17 (by decide)
    have c33_18' : ¬ y9.toInt = 18 := lv_neT c33_18 (by decide)
    have c33_19' : ¬ y9.toInt = 19 := lv_neT c33_19 (by decide)
    have c33_20' : ¬ y9.toInt = 20 := lv_neT c33_20 (by decide)
    have c33_21' : ¬ y9.toInt = 21 := lv_neT c33_21 (by decide)
    have c33_22' : ¬ y9.toInt = 22 := lv_neT c33_22 (by decide)
    have c33_23' : ¬ y9.toInt = 23 := lv_neT c33_23 (by decide)
    have c33_24' : ¬ y9.toInt = 24 := lv_neT c33_24 (by decide)
    have c33_25' : ¬ y9.toInt = 25 := lv_neT c33_25 (by decide)
    have c33_26' : ¬ y9.toInt = 26 := lv_neT c33_26 (by decide)
    have c33_27' : ¬ y9.toInt = 27 := lv_neT c33_27 (by decide)
    have c33_28' : ¬ y9.toInt = 28 := lv_neT c33_28 (by decide)
    have c33_29' : ¬ y9.toInt = 29 := lv_neT c33_29 (by decide)
    have c33_30' : ¬ y9.toInt = 30 := lv_neT c33_30 (by decide)
    have c33_31' : ¬ y9.toInt = 31 := lv_neT c33_31 (by decide)
    have c33_32' : ¬ y9.toInt = 32 := lv_neT c33_32 (by decide)
    have c33_33' : ¬ y9.toInt = 33 := lv_neT c33_33 (by decide)
    have c33_34' : ¬ y9.toInt = 34 := lv_neT c33_34 (by decide)
    have c33_35' : ¬ y9.toInt = 35 := lv_neT c33_35 (by decide)
    have c33_36' : ¬ y9.toInt = 36 := lv_neT c33_36 (by decide)
    have c33_37' : ¬ y9.toInt = 37 := lv_neT c33_37 (by decide)
    have c33_38' : ¬ y9.toInt = 38 := lv_neT c33_38 (by decide)
    have c33_39' : ¬ y9.toInt = 39 := lv_neT c33_39 (by decide)
    have c33_40' : ¬ y9.toInt = 40 := lv_neT c33_40 (by decide)
    have c33_41' : ¬ y9.toInt = 41 := lv_neT c33_41 (by decide)
    refine lv_tableOut (tgt := 1574) Z.1 Z.2.1 dL_law_33 (by omega) (by decide) ?_
    exact kk pic storm chance kc kv kn km sz ns ln p9 ft tp nm stk C X CN XN n hide ver ew ek P S Q T F lw lf bs bw we wo wv ro rv ko kr WD NE OW RE d z N A1 O1 FN nw m1 Sn Tg Hd Av Ld nw2 m2 Sn2 Tg2 Hd2 Av2 Ld2 zr rn nb TR KD srt lns rls Its M CA CW CI tn qb qa qe qf qo TX NM SN PR ST HA FW ZF ZT fw fs os MS HD z9 iw inow im IM IH ow nb8 SH MN IT CR H locs ls (lw_I_s hI) G hl
