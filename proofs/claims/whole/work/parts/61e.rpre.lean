section St61e
variable {e : Nat} {I J : IM} {Q : Post} {V : Vw} {H : Hw} {lo hi a b v p : Int} {l : List Int} {o : Nat → Int} {t : Tk} {c s : Nat} {w : List Nat}
theorem PR.ad {I' : IM} {d1 d2 d3 d4 d5 : Int} (hm : vm V ≤ 12) (h : PR I l V H o t) (f : ∀ q, q ≠ 201 → I' q = I q) (k68 : ∀ k : Int, k < 68 → k ≠ 1 → I' 201 k = I 201 k) (hW : Rrw I' 201 0 (adV V d1 d2 d3 d4 d5)) : PR I' l (adV V d1 d2 d3 d4 d5) H o t := by
  obtain ⟨a1, a2, a3, a4, a5, a6, a7⟩ := h
  refine ⟨⟨by rw [f 200 (by omega)]; exact a1.1, fun k hk => by rw [f 215 (by omega)]; exact a1.2.1 k hk, a1.2.2⟩, hW, fun k h0 h1 => ?_, by rw [f 200 (by omega)]; exact a4, a5.keep fun k _ _ => by rw [f 200 (by omega)], by rw [f 200 (by omega)]; exact a6, by rw [f 200 (by omega)]; exact a7⟩
  have em : vm (adV V d1 d2 d3 d4 d5) = vm V := rfl
  rw [em] at h1
  rw [k68 _ (by omega) (by omega), k68 _ (by omega) (by omega), k68 _ (by omega) (by omega)]
  exact a3 k h0 h1
theorem sp_X11_readsSight (h : PR I l V H o t) (hG : GP l (V, H, o, t)) : Rz SX11_readsSight [.ref 200] e I J l (rdSight l (V, H, o, t)) := by
  intro Q h1 h2
  obtain ⟨gG, gGH, gHB, go, hT⟩ := id hG
  refine x_in (Nat.le_of_ble_eq_true rfl) ?_
  dsimp only [bX11_readsSight, bX11_readsSight_0]
  unfold rdSight at h1 h2
  dsimp only at h1 h2 gG gGH gHB go hT
  have k0 : (0 : Int32) = i32 0 := rfl
  have k1 : (1 : Int32) = i32 1 := rfl
  have k5 : (5 : Int32) = i32 ((5 : Nat) : Int) := rfl
  have k8 : (8 : Int32) = i32 ((8 : Nat) : Int) := rfl
  have k9 : (9 : Int32) = i32 ((9 : Nat) : Int) := rfl
  have k10 : (10 : Int32) = i32 ((10 : Nat) : Int) := rfl
  have k20 : (20 : Int32) = i32 20 := rfl
  have k40 : (40 : Int32) = i32 40 := rfl
  have k60 : (60 : Int32) = i32 60 := rfl
  have km1 : (-1 : Int32) = i32 (-1) := rfl
  have km40 : (-40 : Int32) = i32 (-40) := rfl
  have kb : (-9999 : Int32) = i32 (-9999) := rfl
  have ka : (9999 : Int32) = i32 9999 := rfl
  rw [kb, ka, km1, k40, k10, k9, k8, k5, k1, k0]
  have m12 := gG.1
  have n40 := gG.2.1
  have T1 := hT.nxt
  have T2 := T1.nxt
  have T3 := T2.nxt
  have f3 := T3.f
  have fine := h.2.2.2.2.2.1
  refine x_ob rfl (x_cI (sp_X11_sights h.2.1 (x_le (by omega) (by omega) (fun c1 => ?_) (fun c1 => ?_))))
  · rw [if_neg (by omega)] at h2
    refine x_ob rfl (x_cV (fn_bad (c := 5) h (by omega) fun I1 g1 b1 => x_ob rfl (x_cV (bd_goOn b1 ?_))))
    exact x_ob rfl (x_cI (bd_markHere b1 fun _ => x_ob rfl (x_cI (bd_markHere b1 fun _ => x_ob rfl (x_cI (bd_isWord b1 (x_eq (by omega) (by omega) (fun _ => x_ob rfl (x_cI (bd_isWord b1 (x_eq (by omega) (by omega) (fun _ => x_ob rfl (x_cV (bd_needs b1 (x_ob rfl (x_cI (bd_isWord b1 (x_eq (by omega) (by omega) (fun _ => x_ob rfl (x_cV (bd_goOn b1 (x_ob rfl (x_cI (bd_signed b1 (by omega) fun _ => x_ob rfl (x_cI (bd_isWord b1 (x_eq (by omega) (by omega) (fun _ => bd_rs1 b1 (h2 5 _ rfl I1 g1 b1)) (fun h => absurd rfl h)))))))))) (fun h => absurd rfl h)))))))) (fun h => absurd rfl h))))) (fun h => absurd rfl h))))))))
  · rw [if_pos (by omega)] at h1 h2
    refine x_ob rfl (x_cV (fn_needs fine (x_ob rfl (x_cV (fn_goOn h hT fun I1 g1 p1 => ?_)))))
    refine x_ob rfl (x_cI (sp_X11_markHere (by omega) p1 ⟨gG, gGH, gHB, go, T1⟩ (fun a ha I2 g2 p2 => ?_) (fun c s hc I2 z g2 b2 => ?_)))
    · have ka2 := markN_ok ha
      rw [ha, andT_r] at h1 h2
      have g2 := g1.fr.trans g2
      refine x_ob rfl (x_cI (sp_X11_markHere (by omega) p2 ⟨gG, gGH, gHB, go, T2⟩ (fun b hb I3 g3 p3 => ?_) (fun c s hc I3 z g3 b3 => ?_)))
      · have kb2 := markN_ok hb
        rw [hb, andT_r] at h1 h2
        have g3 := g2.trans g3
        -- behind fore or back
        have key : ∀ cc : Int, (tK (nxt l (nxt l (nxt l t))) = 3 ∧ cc = 0 ∨ tK (nxt l (nxt l (nxt l t))) = 4 ∧ cc = 1) →
            (ob 11 200 (cV SX11_goOn [.ref 200] <| ob 11 200 (cI SX11_signed [.ref 200, .int (i32 (-9999)), .int (i32 9999)] fun v17 => ob 11 200 (cI SX11_isWord [.ref 200, .int (i32 ((10 : Nat) : Int))] fun v18 => br (v18 = i32 0) (fx bX11_readsSight 1 [.ref 200, .int (i32 a), .int (i32 b), .int (i32 cc), .int v17, .int v18]) (ob 11 200 (cV SX11_goOn [.ref 200] <| fx bX11_readsSight 1 [.ref 200, .int (i32 a), .int (i32 b), .int (i32 cc), .int v17, .int v18])))))) (ME e I3 J) Q := by
          intro cc hcc
          rw [if_pos (by omega), show (if tK (nxt l (nxt l (nxt l t))) = 3 then (0 : Int) else 1) = cc by
            rcases hcc with ⟨x, y⟩ | ⟨x, y⟩
            · rw [if_pos x, y]
            · rw [if_neg (by omega), y]] at h1
          rw [if_pos (by omega)] at h2
          -- the sight is laid
          have lay : ∀ (I6 : IM) (x hh : Int) (t6 : Tk), FR I I6 → PR I6 l V H o t6 → (∀ I' : IM, FR I I' → PR I' l (adV V a b cc x hh) H o t6 → Q (.inl none) (ME e I' J)) →
              (ob 11 200 (cI SX11_addsSight [.ref 200, .int (i32 a), .int (i32 b), .int (i32 cc), .int (i32 x), .int (i32 hh)] fun v2 => rV)) (ME e I6 J) Q := by
            intro I6 x hh t6 g6 p6 hq
            exact x_ob rfl (x_cI (sp_X11_addsSight gG p6.2.1 (by omega) fun I7 f7 k7 W7 => x_rV (hq I7 (g6.trans ⟨fun q a b => f7 q b, fun k a => by rw [f7 200 (by omega)]⟩) (PR.ad gG.1 p6 f7 k7 W7))))
          refine x_ob rfl (x_cV (fn_goOn p3 T3 fun I4 g4 p4 => ?_))
          have g4 := g3.trans g4.fr
          refine x_ob rfl (x_cI (sp_X11_signed (by omega) (by omega) p4 T3.nxt (fun x hx I5 g5 p5 => ?_) (fun c s hx I5 z g5 b5 => ?_)))
          · rw [hx, andT_r] at h1 h2
            have nb := numb_ok T3.nxt hx
            have g5 := g4.trans g5
            refine x_ob rfl (x_cI (fn_isWord (w := 10) (by omega) p5 nb.1 ?_))
            rw [show cpK 10 = 5 from rfl]
            by_cases c5 : tK x.2 = 5
            · rw [if_pos c5] at h1 h2
              rw [if_pos c5]
              refine x_eq (by omega) (by omega) (fun h => by omega) (fun _ => x_ob rfl (x_cV (fn_goOn p5 nb.1 fun I6 g6 p6 => fx_in ?_)))
              have g6 := g5.trans g6.fr
              dsimp only [bX11_readsSight, bX11_readsSight_1]
              rw [km40, k60, k20, k0]
              refine x_eq (by omega) (by omega) (fun h => by omega) (fun _ => ?_)
              refine x_ob rfl (x_cI (sp_X11_signed (by omega) (by omega) p6 nb.1.nxt (fun y hy I7 g7 p7 => ?_) (fun c s hy I7 z g7 b7 => ?_)))
              · rw [hy] at h1
                exact x_ob rfl (x_cI (fn_fine p7.2.2.2.2.2.1 (x_eq (by omega) (by omega) (fun h => by omega) (fun _ => lay I7 x.1 y.1 y.2 (g6.trans g7) p7 (fun I' f' P' => h1 _ rfl I' f' P')))))
              · rw [hy] at h2
                exact x_ob rfl (x_cI (bd_fine b7 (x_eq (by omega) (by omega) (fun _ => x_rV (h2 c s rfl I7 (g6.trans g7) b7)) (fun h => absurd rfl h))))
            · rw [if_neg c5] at h1
              rw [if_neg c5]
              refine x_eq (by omega) (by omega) (fun _ => fx_in ?_) (fun h => absurd rfl h)
              dsimp only [bX11_readsSight, bX11_readsSight_1]
              rw [km40, k60, k20, k0]
              refine x_eq (by omega) (by omega) (fun _ => ?_) (fun h => absurd rfl h)
              exact x_ob rfl (x_cI (fn_fine p5.2.2.2.2.2.1 (x_eq (by omega) (by omega) (fun h => by omega) (fun _ => lay I5 x.1 20 x.2 g5 p5 (fun I' f' P' => h1 _ rfl I' f' P')))))
          · rw [hx] at h2
            exact x_ob rfl (x_cI (bd_isWord b5 (x_eq (by omega) (by omega) (fun _ => bd_rs1 b5 (h2 c s rfl I5 (g4.trans g5) b5)) (fun h => absurd rfl h))))
        refine x_ob rfl (x_cI (fn_isWord (w := 8) (by omega) p3 T3 ?_))
        rw [show cpK 8 = 3 from rfl]
        by_cases c3 : tK (nxt l (nxt l (nxt l t))) = 3
        · rw [if_pos c3]
          refine x_eq (by omega) (by omega) (fun h => by omega) (fun _ => x_ob rfl (x_cV (fn_needs p3.2.2.2.2.2.1 (x_ob rfl (x_cI (fn_isWord (w := 9) (by omega) p3 T3 ?_))))))
          rw [show cpK 9 = 4 from rfl, if_neg (by omega)]
          exact x_eq (by omega) (by omega) (fun _ => key 0 (Or.inl ⟨c3, rfl⟩)) (fun h => absurd rfl h)
        · rw [if_neg c3]
          refine x_eq (by omega) (by omega) (fun _ => x_ob rfl (x_cI (fn_isWord (w := 9) (by omega) p3 T3 ?_))) (fun h => absurd rfl h)
          rw [show cpK 9 = 4 from rfl]
          by_cases c4 : tK (nxt l (nxt l (nxt l t))) = 4
          · rw [if_pos c4]
            refine x_eq (by omega) (by omega) (fun h => by omega) (fun _ => x_ob rfl (x_cV (fn_needs p3.2.2.2.2.2.1 (x_ob rfl (x_cI (fn_isWord (w := 9) (by omega) p3 T3 ?_))))))
            rw [show cpK 9 = 4 from rfl, if_pos c4]
            exact x_eq (by omega) (by omega) (fun h => by omega) (fun _ => key 1 (Or.inr ⟨c4, rfl⟩))
          · rw [if_neg c4]
            rw [if_neg (by omega)] at h2
            refine x_eq (by omega) (by omega) (fun _ => x_ob rfl (x_cV (fn_bad (c := 1) p3 (by omega) fun I4 g4 b4 => ?_))) (fun h => absurd rfl h)
            exact x_ob rfl (x_cI (bd_isWord b4 (x_eq (by omega) (by omega) (fun _ => x_ob rfl (x_cV (bd_goOn b4 (x_ob rfl (x_cI (bd_signed b4 (by omega) fun _ => x_ob rfl (x_cI (bd_isWord b4 (x_eq (by omega) (by omega) (fun _ => bd_rs1 b4 (h2 1 _ rfl I4 (g3.trans g4) b4)) (fun h => absurd rfl h)))))))))) (fun h => absurd rfl h))))
      · rw [hc] at h2
        exact x_ob rfl (x_cI (bd_isWord b3 (x_eq (by omega) (by omega) (fun _ => x_ob rfl (x_cI (bd_isWord b3 (x_eq (by omega) (by omega) (fun _ => x_ob rfl (x_cV (bd_needs b3 (x_ob rfl (x_cI (bd_isWord b3 (x_eq (by omega) (by omega) (fun _ => x_ob rfl (x_cV (bd_goOn b3 (x_ob rfl (x_cI (bd_signed b3 (by omega) fun _ => x_ob rfl (x_cI (bd_isWord b3 (x_eq (by omega) (by omega) (fun _ => bd_rs1 b3 (h2 c s rfl I3 (g2.trans g3) b3)) (fun h => absurd rfl h)))))))))) (fun h => absurd rfl h)))))))) (fun h => absurd rfl h))))) (fun h => absurd rfl h))))
    · rw [hc] at h2
      exact x_ob rfl (x_cI (bd_markHere b2 fun _ => x_ob rfl (x_cI (bd_isWord b2 (x_eq (by omega) (by omega) (fun _ => x_ob rfl (x_cI (bd_isWord b2 (x_eq (by omega) (by omega) (fun _ => x_ob rfl (x_cV (bd_needs b2 (x_ob rfl (x_cI (bd_isWord b2 (x_eq (by omega) (by omega) (fun _ => x_ob rfl (x_cV (bd_goOn b2 (x_ob rfl (x_cI (bd_signed b2 (by omega) fun _ => x_ob rfl (x_cI (bd_isWord b2 (x_eq (by omega) (by omega) (fun _ => bd_rs1 b2 (h2 c s rfl I2 (g1.fr.trans g2) b2)) (fun h => absurd rfl h)))))))))) (fun h => absurd rfl h)))))))) (fun h => absurd rfl h))))) (fun h => absurd rfl h))))))
end St61e
