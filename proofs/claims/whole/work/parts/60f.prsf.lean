theorem andT_r {α β : Type} {a : α} {f : α → Er ⊕ β} : andT (.inr a) f = f a := rfl
section Rd60f
variable {e : Nat} {I J : IM} {Q : Post} {V : Vw} {H : Hw} {a b v : Int} {l : List Int} {o : Nat → Int} {t : Tk}
theorem sp_X5_readMarkName {bt : Int} (hb : -1 ≤ bt ∧ bt < 12) (hP : PC I l V H o t) (hG : GP l (V, H, o, t))
    (h1 : ∀ k, markN V t bt = .inr k → ∀ I' : IM, FC I I' → PC I' l V H o (nxt l t) → Q (.inl (some (.int (i32 k)))) (ME e I' J))
    (h2 : ∀ c s : Nat, markN V t bt = .inl (c, s) → ∀ I' : IM, FC I I' → I' 153 4 = c → I' 153 5 = s → Q (.inl (some (.int (i32 (-1))))) (ME e I' J)) :
    SX5_readMarkName [.ref 153, .int (i32 bt)] (ME e I J) Q := by
  refine x_in (Nat.le_of_ble_eq_true rfl) ?_
  dsimp only [bX5_readMarkName, bX5_readMarkName_0]
  obtain ⟨gG, gGH, gHB, go, hT⟩ := hG
  dsimp only at gG gGH gHB go hT
  have k1 : (1 : Int32) = i32 ((1 : Nat) : Int) := rfl
  have k3 : (3 : Int32) = i32 ((3 : Nat) : Int) := rfl
  have k4 : (4 : Int32) = i32 ((4 : Nat) : Int) := rfl
  have k11 : (11 : Int32) = i32 11 := rfl
  have km1 : (-1 : Int32) = i32 (-1) := rfl
  have f := hT.f
  have m12 := gG.1
  unfold markN at h1 h2
  -- a fault
  have fault : ∀ k : Int, -1 ≤ k ∧ k < 12 → (tK t = 11 → k = fnN V (tN t) (vm V) ∧ (k = -1 ∨ k = bt)) → fx bX5_readMarkName 1 [.ref 153, .int (i32 k)] (ME e I J) Q := by
    intro k hk hf
    refine fx_in ?_
    dsimp only [bX5_readMarkName, bX5_readMarkName_1]
    rw [km1, k11, k4, k3, k1]
    refine x_gR rfl rfl (x_gI rfl ?_)
    rw [hP.k]
    refine x_eq (by omega) (by omega) (fun c1 => ?_) (fun c1 => ?_)
    · have c1 : tK t = 11 := by omega
      rw [if_pos c1] at h2
      have g := hf c1
      rw [← g.1] at h2
      refine x_eq (by omega) (by omega) (fun c2 => ?_) (fun c2 => ?_)
      · rw [if_pos c2] at h2
        exact fz hP.s fun I3 f3 a b => x_rI (h2 4 _ rfl I3 f3 a b)
      · rw [if_neg c2, if_pos (by omega)] at h2
        exact fz hP.s fun I3 f3 a b => x_rI (h2 3 _ rfl I3 f3 a b)
    · rw [if_neg (by omega)] at h2
      exact fz hP.s fun I3 f3 a b => x_rI (h2 1 _ rfl I3 f3 a b)
  rw [km1, k11]
  refine x_gR rfl rfl (x_gI rfl ?_)
  rw [hP.k]
  refine x_eq (by omega) (by omega) (fun c1 => ?_) (fun c1 => x_eq (by omega) (by omega) (fun _ => ?_) (fun h => absurd rfl h))
  · have c1 : tK t = 11 := by omega
    rw [if_pos c1] at h1
    have wok := f.2.2.2.2.1 c1
    have wb := enc_bd _ wok
    refine x_gR rfl rfl (x_gR rfl rfl (x_gI rfl ?_))
    rw [hP.w c1]
    refine x_ob rfl (x_cI (sp_X9_named (wl154 e) gG.1 (fun k a b => gd_nm gG a b) hP.2.2.2.2.2.1 (by omega) ?_))
    rw [fnd_fnN wok _ (fun k a b => gd_nm gG a b)]
    have fr := fnN_rg V (tN t) (vm V)
    refine x_eq (by omega) (by omega) (fun c2 => fault _ (by omega) fun _ => ⟨rfl, Or.inl c2⟩) (fun c2 => x_eq (by omega) (by omega) (fun c3 => fault _ (by omega) fun _ => ⟨rfl, Or.inr c3⟩) (fun c3 => ?_))
    rw [if_neg c2, if_neg c3] at h1
    exact c_adv hP hT fun I1 g1 P1 _ => x_rI (h1 _ rfl I1 g1 P1)
  · exact fault _ (by omega) fun h => by omega
theorem PC.vn (hP : PC I l V H o t) : I 157 ((6 : Nat) : Int) = (vn V : Int) := R_n hP.2.2.2.1
theorem sp_X5_readSight (hP : PC I l V H o t) (hG : GP l (V, H, o, t)) : Fz SX5_readSight [.ref 153] e I J l (rdSight l (V, H, o, t)) := by
  intro Q h1 h2
  obtain ⟨gG, gGH, gHB, go, hT⟩ := id hG
  refine x_in (Nat.le_of_ble_eq_true rfl) ?_
  dsimp only [bX5_readSight, bX5_readSight_0]
  unfold rdSight at h1 h2
  dsimp only at h1 h2 gG gGH gHB go hT
  have k1 : (1 : Int32) = i32 ((1 : Nat) : Int) := rfl
  have k3 : (3 : Int32) = i32 3 := rfl
  have k4 : (4 : Int32) = i32 4 := rfl
  have k5 : (5 : Int32) = i32 ((5 : Nat) : Int) := rfl
  have k0 : (0 : Int32) = i32 0 := rfl
  have k20 : (20 : Int32) = i32 20 := rfl
  have k40 : (40 : Int32) = i32 40 := rfl
  have k60 : (60 : Int32) = i32 60 := rfl
  have km1 : (-1 : Int32) = i32 (-1) := rfl
  have km40 : (-40 : Int32) = i32 (-40) := rfl
  have kb : (-9999 : Int32) = i32 (-9999) := rfl
  have ka : (9999 : Int32) = i32 9999 := rfl
  have m12 := gG.1
  have n40 := gG.2.1
  have T1 := hT.nxt
  have T2 := T1.nxt
  have T3 := T2.nxt
  have f3 := T3.f
  rw [km1, k0, k3, k4, k40, k5, k1]
  refine x_gR rfl rfl (x_gIs st157 ?_)
  rw [hP.vn]
  refine x_lt (by omega) (by omega) (fun c1 => ?_) (fun c1 => ?_)
  · rw [if_pos (by omega)] at h1 h2
    refine c_adv hP hT fun I1 g1 P1 _ => ?_
    refine x_ob rfl (x_cI (sp_X5_readMarkName (by omega) P1 ⟨gG, gGH, gHB, go, T1⟩ (fun a ha I2 g2 P2 => ?_) (fun c s hc I2 g2 e4 e5 => ?_)))
    · have ka2 := markN_ok ha
      rw [ha, andT_r] at h1 h2
      have g2 := g1.trans g2
      refine x_eq (by omega) (by omega) (fun h => by omega) (fun _ => ?_)
      refine x_ob rfl (x_cI (sp_X5_readMarkName (by omega) P2 ⟨gG, gGH, gHB, go, T2⟩ (fun b hb I3 g3 P3 => ?_) (fun c s hc I3 g3 e4 e5 => ?_)))
      · have kb2 := markN_ok hb
        rw [hb, andT_r] at h1 h2
        have g3 := g2.trans g3
        refine x_eq (by omega) (by omega) (fun h => by omega) (fun _ => ?_)
        -- behind fore or back
        have key : (tK (nxt l (nxt l (nxt l t))) = 3 ∨ tK (nxt l (nxt l (nxt l t))) = 4) → fx bX5_readSight 1 [.ref 153, .int (i32 a), .int (i32 b)] (ME e I3 J) Q := by
          intro hk
          rw [if_pos hk] at h1 h2
          refine fx_in ?_
          dsimp only [bX5_readSight, bX5_readSight_1]
          -- the reading and the heat
          have rest : ∀ (cc : Int), cc = (if tK (nxt l (nxt l (nxt l t))) = 3 then 0 else 1) →
              (gR 5 0 153 fun r15 => ob 8 r15 (cV SX8_advance [.ref r15] <| ob 5 153 (cI SX5_readNumber [.ref 153, .int (i32 1), .int (i32 (-9999)), .int (i32 9999)] fun v16 => br (v16 = i32 0) (rZ (i32 0)) (gI 5 6 153 fun v17 => gR 5 0 153 fun r18 => gI 8 2 r18 fun v19 => br (v19 = i32 5) (gR 5 0 153 fun r22 => ob 8 r22 (cV SX8_advance [.ref r22] <| ob 5 153 (cI SX5_readNumber [.ref 153, .int (i32 1), .int (i32 (-40)), .int (i32 60)] fun v23 => br (v23 = i32 0) (rZ (i32 0)) (gI 5 6 153 fun v24 => gR 5 2 153 fun r25 => ob 6 r25 (cI SX6_add [.ref r25, .int (i32 a), .int (i32 b), .int (i32 cc), .int v17, .int v24] fun v26 => rZ (i32 1)))))) (gR 5 2 153 fun r20 => ob 6 r20 (cI SX6_add [.ref r20, .int (i32 a), .int (i32 b), .int (i32 cc), .int v17, .int (i32 20)] fun v21 => rZ (i32 1))))))) (ME e I3 J) Q := by
            intro cc hcc
            rw [← hcc] at h1
            refine c_adv P3 T3 fun I4 g4 P4 _ => ?_
            have g4 := g3.trans g4
            refine x_ob rfl (x_cI (sp_X5_readNumber (sg := true) (by omega) (by omega) P4 T3.nxt (fun x hx I5 g5 P5 e6 => ?_) (fun c s hx I5 g5 e4 e5 => ?_)))
            · rw [hx, andT_r] at h1 h2
              have nb := numb_ok T3.nxt hx
              have g5 := g4.trans g5
              have f5 := nb.1.f
              refine x_eq (by omega) (by omega) (fun h => by omega) (fun _ => x_gI rfl (x_gR rfl rfl (x_gI rfl ?_)))
              rw [P5.k, show I5 153 ((6 : Nat) : Int) = x.1 from e6]
              have add : ∀ (I6 : IM) (hh : Int) (t6 : Tk), FC I I6 → PC I6 l V H o t6 → (∀ I' : IM, FC I I' → PC I' l (adV V a b cc x.1 hh) H o t6 → Q (.inl (some (.int (i32 1)))) (ME e I' J)) →
                  (gR 5 2 153 fun r20 => ob 6 r20 (cI SX6_add [.ref r20, .int (i32 a), .int (i32 b), .int (i32 cc), .int (i32 x.1), .int (i32 hh)] fun v21 => rZ (i32 1))) (ME e I6 J) Q := by
                intro I6 hh t6 g6 P6 hq
                obtain ⟨a1, a2, a3, a4, a5, a6, a7, a8, a9⟩ := P6
                refine x_gR rfl rfl (x_obs st157 (x_cI (sp_X6_add st157 a4 (by omega) fun I7 f7 fh R7 => x_rZ (by omega) (hq I7 (g6.trans fun q a => f7 q (by omega)) ⟨a1.keep (f7 1 (by omega)) (f7 2 (by omega)), a2, fun i hi => by rw [f7 170 (by omega)]; exact a3 i hi, R7, a5.keep fun d hd => fh d (by omega) (by omega), a6.keep fun d hd => f7 _ (by omega), fun i hi => by rw [f7 168 (by omega)]; exact a7 i hi, a8.keep (f7 169 (by omega)), by rw [f7 153 (by omega)]; exact a9⟩))))
              refine x_eq (by omega) (by omega) (fun c5 => ?_) (fun c5 => ?_)
              · rw [if_pos (by omega)] at h1 h2
                refine c_adv P5 nb.1 fun I6 g6 P6 k6 => ?_
                have g6 := g5.trans g6
                refine x_ob rfl (x_cI (sp_X5_readNumber (sg := true) (by omega) (by omega) P6 nb.1.nxt (fun y hy I7 g7 P7 e7 => ?_) (fun c s hy I7 g7 e4 e5 => ?_)))
                · rw [hy] at h1
                  refine x_eq (by omega) (by omega) (fun h => by omega) (fun _ => x_gI rfl ?_)
                  rw [show I7 153 ((6 : Nat) : Int) = y.1 from e7]
                  exact add I7 y.1 y.2 (g6.trans g7) P7 (fun I' f' P' => h1 _ rfl I' f' P')
                · rw [hy] at h2
                  refine x_eq (by omega) (by omega) (fun _ => x_rZ (by omega) (h2 c s rfl I7 (g6.trans g7) e4 e5)) (fun h => absurd rfl h)
              · rw [if_neg (by omega)] at h1
                exact add I5 20 x.2 g5 P5 (fun I' f' P' => h1 _ rfl I' f' P')
            · rw [hx] at h2
              refine x_eq (by omega) (by omega) (fun _ => x_rZ (by omega) (h2 c s rfl I5 (g4.trans g5) e4 e5)) (fun h => absurd rfl h)
          rw [kb, ka, km40, k60, k20, k5, k0, k3, k1]
          refine x_gR rfl rfl (x_gI rfl ?_)
          rw [P3.k]
          refine x_eq (by omega) (by omega) (fun c3 => ?_) (fun c3 => ?_)
          · exact rest 0 (by rw [if_pos (by omega)])
          · exact rest 1 (by rw [if_neg (by omega)])
        refine x_gR rfl rfl (x_gI rfl ?_)
        rw [P3.k]
        refine x_eq (by omega) (by omega) (fun c3 => key (Or.inl (by omega))) (fun c3 => x_gR rfl rfl (x_gI rfl ?_))
        rw [P3.k]
        refine x_eq (by omega) (by omega) (fun c4 => key (Or.inr (by omega))) (fun c4 => ?_)
        rw [if_neg (by omega)] at h2
        exact fz P3.s fun I4 f4 a b => x_rZ (by omega) (h2 1 _ rfl I4 (g3.trans f4) a b)
      · rw [hc] at h2
        refine x_eq (by omega) (by omega) (fun _ => x_rZ (by omega) (h2 c s rfl I3 (g2.trans g3) e4 e5)) (fun h => absurd rfl h)
    · rw [hc] at h2
      refine x_eq (by omega) (by omega) (fun _ => x_rZ (by omega) (h2 c s rfl I2 (g1.trans g2) e4 e5)) (fun h => absurd rfl h)
  · rw [if_neg (by omega)] at h2
    exact fz hP.s fun I3 f3 a b => x_rZ (by omega) (h2 5 _ rfl I3 f3 a b)
theorem sp_X5_tellOnce {w : Nat} (hw : w < 5) (hP : PC I l V H o t) (hG : GP l (V, H, o, t))
    (h1 : o w ≠ 1 → ∀ I' : IM, FC I I' → PC I' l V H (onc o w) (nxt l t) → Q (.inl (some (.int (i32 1)))) (ME e I' J))
    (h2 : o w = 1 → ∀ I' : IM, FC I I' → I' 153 4 = ((3 : Nat) : Int) → I' 153 5 = (tS t : Int) → Q (.inl (some (.int (i32 0)))) (ME e I' J)) :
    SX5_tellOnce [.ref 153, .int (i32 w)] (ME e I J) Q := by
  refine x_in (Nat.le_of_ble_eq_true rfl) ?_
  dsimp only [bX5_tellOnce, bX5_tellOnce_0]
  have k3 : (3 : Int32) = i32 ((3 : Nat) : Int) := rfl
  have k1 : (1 : Int32) = i32 1 := rfl
  rw [k3, k1]
  have hT := hG.2.2.2.2
  have ho := hG.2.2.2.1 w
  dsimp only at hT ho
  obtain ⟨a1, a2, a3, a4, a5, a6, a7, a8, a9⟩ := id hP
  refine x_gR rfl rfl (x_cI (sp_X10_cell (n := 5) rfl (by omega) (by omega) (by omega) (by omega) ?_))
  dsimp only
  rw [a7 w hw]
  refine x_eq (by omega) (by omega) (fun c => fz hP.s fun I3 f3 x y => x_rZ (by omega) (h2 c I3 f3 x y)) (fun c => ?_)
  refine x_gR rfl rfl (x_cV (sp_X10_put (n := 5) rfl (by omega) (by omega) (by omega) (by omega) ?_))
  have P1 : PC (up I 168 w 1) l V H (onc o w) t := by
    refine ⟨a1.keep (up_qf (by omega)) (up_qf (by omega)), a2, fun i hi => by rw [up_q (by omega)]; exact a3 i hi, a4.keep fun d hd => up_qf (by omega), a5.keep fun d hd => up_qf (by omega), a6.keep fun d hd => up_qf (by omega), fun i hi => ?_, a8.keep (up_qf (by omega)), by rw [up_q (by omega), up_q (by omega)]; exact a9⟩
    rw [up_at]
    unfold onc
    by_cases h : i = w
    · rw [if_pos (by omega), if_pos h]
    · rw [if_neg (by omega), if_neg h]; exact a7 i hi
  exact c_adv P1 hT fun I1 g1 P1 _ => x_rZ (by omega) (h1 c I1 (fun q a => by rw [g1 q a, up_qf (by omega)]) P1)
theorem sp_X5_readSetting {w : Nat} {sg : Bool} (hw : w < 4) (hP : PC I l V H o t) (hG : GP l (V, H, o, t)) : Fz SX5_readSetting [.ref 153, .int (i32 w), .int (i32 (if sg = true then 1 else 0))] e I J l (rdSet l (V, H, o, t) w sg) := by
  intro Q h1 h2
  refine x_in (Nat.le_of_ble_eq_true rfl) ?_
  dsimp only [bX5_readSetting, bX5_readSetting_0]
  have k1 : (1 : Int32) = i32 1 := rfl
  have k0 : (0 : Int32) = i32 0 := rfl
  have hT := hG.2.2.2.2
  unfold rdSet at h1 h2
  dsimp only at h1 h2 hT
  rw [k0, k1]
  refine x_ob rfl (x_cI (sp_X5_tellOnce (by omega) hP hG (fun c I1 g1 P1 => ?_) (fun c I1 g1 e4 e5 => ?_)))
  · rw [if_neg c] at h1 h2
    refine x_eq (by omega) (by omega) (fun h => by omega) (fun _ => ?_)
    refine x_cI (sp_X10_cellS (i := 0) (by omega) (by omega) (by omega) ?_)
    refine x_cI (sp_X10_cellS (i := 1) (by omega) (by omega) (by omega) ?_)
    dsimp only
    rw [show sI (1000 + 0) ((w : Int)).toNat = i32 (seL w) from sI_lo w hw, show sI (1000 + 1) ((w : Int)).toNat = i32 (seU w) from sI_up w hw]
    have bl : -1000000 ≤ seL w ∧ seL w ≤ 1000000 := by unfold seL; split <;> (try split) <;> omega
    have bu : -1000000 ≤ seU w ∧ seU w ≤ 1000000 := by unfold seU; split <;> (try split) <;> omega
    refine x_ob rfl (x_cI (sp_X5_readNumber (sg := sg) bl bu P1 hT.nxt (fun x hx I2 g2 P2 e6 => ?_) (fun c s hx I2 g2 e4 e5 => ?_)))
    · rw [hx] at h1
      refine x_eq (by omega) (by omega) (fun h => by omega) (fun _ => x_gR rfl rfl (x_gRs st157 rfl (x_gI rfl ?_)))
      rw [show I2 153 ((6 : Nat) : Int) = x.1 from e6]
      refine x_cV (sp_X10_put (n := 4) rfl (by omega) (by omega) (by omega) (by omega) (x_rZ (by omega) (h1 _ rfl _ ((g1.trans g2).trans fun q a => up_qf (by omega)) ?_)))
      obtain ⟨a1, a2, a3, a4, a5, a6, a7, a8, a9⟩ := P2
      refine ⟨a1.keep (up_qf (by omega)) (up_qf (by omega)), a2, fun i hi => by rw [up_q (by omega)]; exact a3 i hi, ?_, a5.keep fun d hd => up_qf (by omega), a6.keep fun d hd => up_qf (by omega), fun i hi => by rw [up_q (by omega)]; exact a7 i hi, a8.keep (up_qf (by omega)), by rw [up_q (by omega), up_q (by omega)]; exact a9⟩
      obtain ⟨r0, r1, r2, r3, _, _, _, r7, r8, r9, r10, r11, r12⟩ := a4
      have ev : ∀ i, vS (stS V w x.1) i = if i = w then x.1 else vS V i := fun _ => rfl
      refine ⟨fun i i0 i1 => ?_, ?_, fun h => ?_, ?_, trivial, trivial, trivial, fun s s0 s1 => ?_, fun s s0 s1 => ?_, fun s s0 s1 => ?_, fun s s0 s1 => ?_, fun s s0 s1 => ?_, fun s s0 s1 => ?_⟩
      · rw [up_at, ev]
        split
        · rfl
        · exact r0 i i0 i1
      · rw [up_q (by omega), ev, if_neg (by omega)]; exact r1
      · rw [ev, if_neg (by omega)] at h
        rw [up_q (by omega), ev, if_neg (by omega)]; exact r2 h
      · rw [up_q (by omega)]; exact r3
      · rw [up_q (by omega)]; exact r7 s s0 s1
      · rw [up_q (by omega)]; exact r8 s s0 s1
      · rw [up_q (by omega)]; exact r9 s s0 s1
      · rw [up_q (by omega)]; exact r10 s s0 s1
      · rw [up_q (by omega)]; exact r11 s s0 s1
      · rw [up_q (by omega)]; exact r12 s s0 s1
    · rw [hx] at h2
      refine x_eq (by omega) (by omega) (fun _ => x_rZ (by omega) (h2 c s rfl I2 (g1.trans g2) e4 e5)) (fun h => absurd rfl h)
  · rw [if_pos c] at h2
    refine x_eq (by omega) (by omega) (fun _ => x_rZ (by omega) (h2 3 _ rfl I1 g1 e4 e5)) (fun h => absurd rfl h)
theorem sp_X5_readError (hP : PC I l V H o t) (hG : GP l (V, H, o, t)) : Fz SX5_readError [.ref 153] e I J l (rdErr l (V, H, o, t)) := by
  intro Q h1 h2
  refine x_in (Nat.le_of_ble_eq_true rfl) ?_
  dsimp only [bX5_readError, bX5_readError_0]
  have k1 : (1 : Int32) = i32 1 := rfl
  have k0 : (0 : Int32) = i32 0 := rfl
  have k4 : (4 : Int32) = i32 ((4 : Nat) : Int) := rfl
  have kb : (-999 : Int32) = i32 (-999) := rfl
  have ka : (999 : Int32) = i32 999 := rfl
  have hT := hG.2.2.2.2
  unfold rdErr at h1 h2
  dsimp only at h1 h2 hT
  rw [kb, ka, k4, k0, k1]
  refine x_ob rfl (x_cI (sp_X5_tellOnce (by omega) hP hG (fun c I1 g1 P1 => ?_) (fun c I1 g1 e4 e5 => ?_)))
  · rw [if_neg c] at h1 h2
    refine x_eq (by omega) (by omega) (fun h => by omega) (fun _ => ?_)
    refine x_ob rfl (x_cI (sp_X5_readNumber (sg := true) (by omega) (by omega) P1 hT.nxt (fun x hx I2 g2 P2 e6 => ?_) (fun c s hx I2 g2 e4 e5 => ?_)))
    · rw [hx] at h1
      refine x_eq (by omega) (by omega) (fun h => by omega) (fun _ => x_gR rfl rfl (x_pZs st157 (by omega) (x_gR rfl rfl (x_gI rfl ?_))))
      rw [up_q (by omega), show I2 153 ((6 : Nat) : Int) = x.1 from e6]
      refine x_pIs st157 (x_rZ (by omega) (h1 _ rfl _ ((g1.trans g2).trans fun q a => by rw [up_qf (by omega), up_qf (by omega)]) ?_))
      obtain ⟨a1, a2, a3, a4, a5, a6, a7, a8, a9⟩ := P2
      have fr : ∀ q, q ≠ 157 → (up (up I2 157 ((1 : Nat) : Int) 1) 157 ((2 : Nat) : Int) x.1) q = I2 q := fun q a => by rw [up_qf a, up_qf a]
      refine ⟨a1.keep (fr 1 (by omega)) (fr 2 (by omega)), a2, fun i hi => by rw [fr 170 (by omega)]; exact a3 i hi, ?_, a5.keep fun d hd => fr _ (by omega), a6.keep fun d hd => fr _ (by omega), fun i hi => by rw [fr 168 (by omega)]; exact a7 i hi, a8.keep (fr 169 (by omega)), by rw [fr 153 (by omega)]; exact a9⟩
      obtain ⟨r0, r1, r2, r3, _, _, _, r7, r8, r9, r10, r11, r12⟩ := a4
      have ev : ∀ i, vS (teV V x.1) i = if i = 4 then 1 else if i = 5 then x.1 else vS V i := fun _ => rfl
      refine ⟨fun i i0 i1 => ?_, ?_, fun h => ?_, ?_, trivial, trivial, trivial, fun s s0 s1 => ?_, fun s s0 s1 => ?_, fun s s0 s1 => ?_, fun s s0 s1 => ?_, fun s s0 s1 => ?_, fun s s0 s1 => ?_⟩
      · rw [fr _ (by omega), ev, if_neg (by omega), if_neg (by omega)]; exact r0 i i0 i1
      · rw [ev, if_pos rfl, up_k (by omega), show ((1 : Nat) : Int) = 1 from rfl, up_self]
      · rw [ev, if_neg (by omega), if_pos rfl, show ((2 : Nat) : Int) = 2 from rfl, up_self]
      · rw [up_k (by omega), up_k (by omega)]; exact r3
      · rw [fr _ (by omega)]; exact r7 s s0 s1
      · rw [fr _ (by omega)]; exact r8 s s0 s1
      · rw [fr _ (by omega)]; exact r9 s s0 s1
      · rw [fr _ (by omega)]; exact r10 s s0 s1
      · rw [fr _ (by omega)]; exact r11 s s0 s1
      · rw [fr _ (by omega)]; exact r12 s s0 s1
    · rw [hx] at h2
      refine x_eq (by omega) (by omega) (fun _ => x_rZ (by omega) (h2 c s rfl I2 (g1.trans g2) e4 e5)) (fun h => absurd rfl h)
  · rw [if_pos c] at h2
    refine x_eq (by omega) (by omega) (fun _ => x_rZ (by omega) (h2 3 _ rfl I1 g1 e4 e5)) (fun h => absurd rfl h)
end Rd60f
