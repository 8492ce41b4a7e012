/-! reading the text: items -/
section RG
variable {σa ρa : Mem} {t : Nat} {tx : Nat → Nat}
theorem stepA {m : Nat} (hA : PA σa ρa t tx m) (hB : PB σa ρa t tx m) : PA σa ρa t tx (m + 1) := by
  intro σ ρ tok b x i it N sz ev yr fu fu1 hc hi hi0 hit h6 hm hd hme hf hf1
  obtain ⟨fu, rfl⟩ : ∃ q, fu = q + 1 := ⟨fu - 1, by omega⟩
  obtain ⟨fu1, rfl⟩ : ∃ q, fu1 = q + 1 := ⟨fu1 - 1, by omega⟩
  obtain ⟨c1, c2, c3, c4, c5, c6⟩ := id hc
  have h110 := c1.1
  have hv := hd.1
  have hn := hv.1
  have hl := tok_le c4
  obtain ⟨t1, t2, t3, t4, t5, t6, t7, t8, t9⟩ := id c4
  obtain ⟨m1, m2, m3, m4, m5⟩ := id hm
  by_cases q : tok = 3000
  · rw [read_end (k_eq c4 q), fX7_reads_25, t6, if_pos ((tk_end hl).mpr q)]
    unfold fX5_read_69
    rw [if_pos h6]
    exact ⟨_, _, _, _, rfl, rfl, c2, c3, Or.inr ⟨rfl, it, N, sz, ev, yr, by omega, m1, hm, hd⟩⟩
  have hix := hi q
  have tk0 := take_0 h6 t5 hd.2.1 hn
  rw [fX7_reads_25, t6, if_neg (fun z => q ((tk_end hl).mp z))]
  by_cases q5 : tok = 115
  · rw [if_pos (show tkI tok = 115 from (tk_is (c := 115) hl (by omega)).mpr q5)]
    rw [if_pos q5] at tk0
    unfold fX7_readsSlack
    rcases m3 with ⟨s1, s2, s3⟩ | ⟨sl, s0, s1, s2, s3⟩
    · rw [if_pos s1] at tk0
      rw [if_pos s2]
      obtain ⟨σ2, ρ2, tok1, b1, x1, a1, a2, a3, a4, a5, a6, a7⟩ := CO_adv (σ := mup (mup σ 1 9 1) 1 6 1) (ρ := ρ) (x := x) (TT_mX (TT_mX c1 (by omega)) (by omega)) (FX_m (FX_m c2 (by omega)) (by omega)) c3 (by rw [mup_n (by omega), mup_n (by omega)]; exact t1) t2 c6
      obtain ⟨d1, d2, d3, d4, d5, d6⟩ := id a3
      have hn1 := mea_nx (t := t) (tok := tok) (x := x) q a4 a5 d6
      have hl1 := tok_le d4
      obtain ⟨u1, u2, u3, u4, u5, u6, u7, u8, u9⟩ := id d4
      obtain ⟨fu, rfl⟩ : ∃ q, fu = q + 1 := ⟨fu - 1, by omega⟩
      have z6 : σ2 1 6 = 1 := by rw [a6 _ _ (by omega), mup_s]
      have isN : fX7_isNumber 0 9 ρ2 = some (if 1000 + 0 ≤ tok1 ∧ tok1 ≤ 1000 + 9 then 1 else 0) := isNum_ok (l := 0) (m := 9) u6 hl1 (by omega) (by omega)
      rw [read_go (k_ne c4 q) (by omega) tk0 a1, a2, bv_s, isN, bi_s]
      have R0 : ∀ {μ : Mem}, (bm (some ((0 : Int32), μ)) fun r12 σ13 => fX7_reads_70 (fun a0 => fX7_reads_25 fu1 a0) r12 σ13) = some (0, μ) := by
        intro μ
        rw [bm_s]
        unfold fX7_reads_70
        rw [if_pos rfl]
      by_cases z : tok1 = 3000
      · rw [if_neg (show ¬ (1000 + 0 ≤ tok1 ∧ tok1 ≤ 1000 + 9) by omega), if_pos (show (0 : Int32) = 0 from rfl), R0]
        exact end_fail a3 z z6 (by decide)
      · have tk1 := take_1 z6 u5 u7
        have hx1 := a4 z
        by_cases y : 1000 ≤ tok1 ∧ tok1 ≤ 1009
        · rw [if_pos y] at tk1
          rw [if_pos (show 1000 + 0 ≤ tok1 ∧ tok1 ≤ 1000 + 9 by omega), if_neg (show ¬ (1 : Int32) = 0 by decide), u6, sub1000 y.1 (by omega)]
          have e5 := u7 y.1 (by omega)
          obtain ⟨σ4, ρ4, tok2, b2, x2, f1, f2, f3, f4, f5, f6, f7⟩ := CO_adv (σ := mup (mup σ2 31 2 (σ2 1 5)) 1 6 4) (ρ := mup ρ2 0 14 (nI (tok1 - 1000))) (x := x1) (TT_mR (TT_mX (TT_mX d1 (by omega)) (by omega)) (by omega)) (FX_m (FX_m d2 (by omega)) (by omega)) (FR_m d3 (by omega)) (by rw [mup_n (by omega), mup_n (by omega)]; exact u1) (by rw [mup_n (by omega)]; exact u2) d6
          obtain ⟨g1, g2, g3, g4, g5, g6⟩ := id f3
          have hn2 := mea_nx (t := t) (tok := tok1) (x := x1) z f4 f5 g6
          have hl2 := tok_le g4
          obtain ⟨w1, w2, w3, w4, w5, w6, w7, w8, w9⟩ := id g4
          obtain ⟨fu, rfl⟩ : ∃ q, fu = q + 1 := ⟨fu - 1, by omega⟩
          have v6 : σ4 1 6 = 4 := by rw [f6 _ _ (by omega), mup_s]
          have v7 : σ4 1 7 = nI it := by rw [f6 _ _ (by omega), mup_n (by omega), mup_n (by omega), a6 _ _ (by omega), mup_n (by omega), mup_n (by omega)]; exact m1
          rw [read_go (k_ne d4 z) (by omega) tk1 f1, f2, bv_s]
          have tk4 := take_4 v6 w5 v7
          by_cases p : tok2 = 59
          · rw [if_pos p] at tk4
            have hm4 : CM σ4 ρ4 it N sz := by
              refine ⟨v7, ?_, Or.inr ⟨tok1 - 1000, by omega, ?_, ?_, ?_⟩, ?_, fun h hh => ?_⟩
              · rw [f7 _ _ (by omega), mup_n (by omega), a7 _ _ (by omega)]; exact m2
              · rw [f6 _ _ (by omega), mup_n (by omega), mup_n (by omega), a6 _ _ (by omega), mup_n (by omega), mup_s]
              · rw [f7 _ _ (by omega), mup_s]
              · rw [f6 _ _ (by omega), mup_n (by omega), mup_s]; exact e5
              · rw [f7 _ _ (by omega), mup_n (by omega), a7 _ _ (by omega)]; exact m4
              · rw [f7 _ _ (by omega), mup_n (by omega), a7 _ _ (by omega)]; exact m5 h hh
            have hd4 : PD σ4 ρ4 N sz ev yr := PD_fr hd (fun p q _ _ _ => by rw [f6 _ _ (by omega), mup_n (by omega), mup_n (by omega), a6 _ _ (by omega), mup_n (by omega), mup_n (by omega)]) (fun p q _ => by rw [f7 _ _ (by omega), mup_n (by omega), a7 _ _ (by omega)])
            obtain ⟨ρ5, g7, g8⟩ := stopA hA f3 p (show i + 1 + 1 < x2 by have := f4 (by omega); omega) (show it ≤ i + 1 + 1 by omega) tk4 hm4 hd4 (by omega) (fu := fu) (by omega) (fu1 := fu1) (by omega)
            rw [rEnd_y w6 p, g7, bv_s, bm_s, grd_t (Or.inr rfl), bm_s]
            unfold fX7_reads_70
            simp only [one0, if_false]
            exact g8
          · rw [if_neg p] at tk4
            rw [rEnd_n w6 hl2 p, bm_s, grd_t (Or.inl rfl), R0]
            by_cases o : tok2 = 3000
            · exact end_fail f3 o v6 (by decide)
            · exact tok_fail f3 o (by have := f4 o; omega) tk4 (FX_m (FX_m g2 (by omega)) (by omega)) (by rw [mup_n (by omega), mup_n (by omega)])
        · rw [if_neg y] at tk1
          rw [if_neg (show ¬ (1000 + 0 ≤ tok1 ∧ tok1 ≤ 1000 + 9) by omega), if_pos (show (0 : Int32) = 0 from rfl), R0]
          exact tok_fail a3 z (by omega) tk1 (FX_m (FX_m d2 (by omega)) (by omega)) (by rw [mup_n (by omega), mup_n (by omega)])
    · rw [if_neg (show ¬ σ 1 9 = 0 by rw [s1]; decide)] at tk0
      have n9 : ¬ ρ 0 14 = -9 := by
        rw [s2]
        intro z
        have := congrArg Int32.toInt z
        rw [nI_toInt (by omega), show (-9 : Int32).toInt = -9 from rfl] at this
        omega
      rw [if_neg n9, bm_s]
      unfold fX7_reads_70
      rw [if_pos rfl]
      exact tok_fail hc q hix tk0 (FX_m (FX_m c2 (by omega)) (by omega)) (by rw [mup_n (by omega), mup_n (by omega)])
  rw [if_neg (show ¬ tkI tok = 115 from fun z => q5 ((tk_is (c := 115) hl (by omega)).mp z))]
  rw [if_neg q5] at tk0
  by_cases q3 : tok = 113
  · rw [if_pos (show tkI tok = 113 from (tk_is (c := 113) hl (by omega)).mpr q3)]
    unfold fX7_readsHouse
    show OUT σa ρa _ (bm _ (K0 fu1))
    by_cases w : N < 4
    · rw [if_pos ⟨q3, w⟩] at tk0
      rw [m4, if_neg (show ¬ nI N = 4 from fun z => by have := (nI_eq (b := 4) (by omega) (by omega)).mp z; omega)]
      obtain ⟨σ2, ρ2, tok1, b1, x1, a1, a2, a3, a4, a5, a6, a7⟩ := CO_adv (σ := mup (mup σ 31 1 (nI (N + 1))) 1 6 2) (ρ := ρ) (x := x) (TT_mX (TT_mX c1 (by omega)) (by omega)) (FX_m (FX_m c2 (by omega)) (by omega)) c3 (by rw [mup_n (by omega), mup_n (by omega)]; exact t1) t2 c6
      have hn1 := mea_nx (t := t) (tok := tok) (x := x) q a4 a5 a3.2.2.2.2.2
      rw [read_go (k_ne c4 q) (by omega) tk0 a1, a2, bv_s, a7 0 15 (by omega), m4, show (6 : Int32) = nI 6 from rfl, pk_mul]
      have mle : mea t tok x ≤ 111 := by
        unfold mea
        split <;> omega
      refine hB σ2 ρ2 tok1 b1 x1 (i + 1) it N 0 (fun h => if h = N then 0 else sz h) ev yr fu fu1 FU a3 (fun z => by have := a4 z; omega) (by omega) (by omega) ?_ ?_ ?_ (if_pos rfl) (by omega) (by omega) (by omega) (by rw [FU_big]; omega)
      · rw [a6 _ _ (by omega), mup_s]
      · have hm2 := CM_fr (σ' := σ2) (ρ' := ρ2) hm (by rw [a6 _ _ (by omega), mup_n (by omega), mup_n (by omega)]) (by rw [a6 _ _ (by omega), mup_n (by omega), mup_n (by omega)]) (by rw [a6 _ _ (by omega), mup_n (by omega), mup_n (by omega)]) (fun b _ _ => by rw [a7 _ _ (by omega)]) (fun b => by rw [a7 _ _ (by omega)])
        exact ⟨hm2.1, hm2.2.1, hm2.2.2.1, hm2.2.2.2.1, fun h hh => by
          show _ = nI (if h = N then 0 else sz h)
          rw [if_neg (by omega)]
          exact hm2.2.2.2.2 h hh⟩
      · exact PD_fr (PD_open hd w) (fun p q _ _ _ => a6 _ _ (by omega)) (fun p q _ => a7 _ _ (by omega))
    · rw [if_neg (fun z => w z.2)] at tk0
      rw [m4, if_pos (show nI N = 4 by rw [show N = 4 by omega]; rfl), bm_s, K0_0]
      exact tok_fail hc q hix tk0 c2 rfl
  · rw [if_neg (fun z => q3 z.1)] at tk0
    rw [if_neg (show ¬ tkI tok = 113 from fun z => q3 ((tk_is (c := 113) hl (by omega)).mp z))]
    unfold fX7_reads_69 fX7_reads_70
    rw [if_pos rfl]
    exact tok_fail hc q hix tk0 c2 rfl
theorem reads_all : ∀ m, PA σa ρa t tx m ∧ PB σa ρa t tx m := by
  intro m
  induction m with
  | zero =>
    constructor
    · intro σ ρ tok b x i it N sz ev yr fu fu1 _ _ _ _ _ _ _ h
      exact absurd h (Nat.not_lt_zero _)
    · intro σ ρ tok b x i it N k sz ev yr fu fu1 fu2 _ _ _ _ _ _ _ _ h
      exact absurd h (Nat.not_lt_zero _)
  | succ m ih => exact ⟨stepA ih.1 ih.2, stepB ih.1 ih.2⟩
end RG
