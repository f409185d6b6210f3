/-! ===== loops and sights are printed; a byte of the output ===== -/
section Out58e
variable {e : Nat} {I J : IM} {Q : Post} {V : Vw} {H : Hw} {a b c v s : Int} {l : List Int}
theorem lM_rg (hG : Good V) {k : Int} (hE : isE V k = true) : ∀ i : Nat, i ≤ lD V k → 0 ≤ lM V k i ∧ lM V k i < vm V := by
  intro i hi
  have c := gd_E hG (isE_iff.mp hE)
  have j := E_jn hG hE
  have d := lD_ok hG hE
  match i, hi with
  | 0, _ => exact ⟨c.2.2.2.1, by show k / 12 < _; omega⟩
  | 1, _ => exact ⟨j.2.1.1, by show k % 12 < _; omega⟩
  | i + 2, hi =>
    have o1 := pth_ok hG j.2.1 j.1 j.2.2 i (by omega)
    have o2 := pth_ok hG j.2.1 j.1 j.2.2 (i + 1) (by omega)
    have s := pth_step hG j.2.1 j.1 j.2.2 (i := i) (by omega)
    have hE2 := (fd_TI hG).2.2.2.2 _ s.2.2.1
    have c2 := gd_E hG (isE_iff.mp hE2)
    show 0 ≤ pth V (k / 12) (k % 12) (i + 1) ∧ pth V (k / 12) (k % 12) (i + 1) < vm V
    generalize pth V (k / 12) (k % 12) (i + 1) = x at *
    generalize pth V (k / 12) (k % 12) i = y at *
    have hy := o1.1
    have hx := o2.1
    unfold pq mark12 at *
    split at c2 <;> omega
theorem cq_printLoop (h : Cn I V H) (ha : IR a) : CqO SX10_printLoop [.ref 0, .int (i32 a)] e I J (plA V a) := by
  intro Q hQ hN
  obtain ⟨hG, hGH, hB, hR, hH, hW, hd⟩ := id h
  have m := hG.1
  refine x_in (Nat.le_of_ble_eq_true rfl) ?_
  dsimp only [bX10_printLoop, bX10_printLoop_0]
  ((try rw [show (0 : Int32) = i32 (0) from rfl]); (try simp only [i32_add, i32_sub, i32_mul, i32_neg]))
  unfold plA at hQ hN
  refine x_gR rfl rfl (x_ob rfl (x_cV (sp_X10_survey st8 hG hR hW hd fun I1 f1 M1 G1 L1 => ?_)))
  refine x_ob rfl (x_cV (sp_X10_needLoop hG L1.1 ha (fun h1 h2 => ?_) (fun h1 => hN (by rw [if_neg (by omega)]) I1 8 st8 f1.cf)))
  rw [if_pos ⟨h1, h2⟩] at hQ
  have hQ := hQ _ rfl
  obtain ⟨k1, k2, k3⟩ := lke_ok h1 h2
  generalize lke V a = k at *
  have t := L1.2.2.1 k k1 k2
  have hE := (isL_E k2).1
  have D := lD_ok hG hE
  have lr := lM_rg hG hE
  have k4 := lk_40 hG k1 k2
  have lc := lC_bd hG hE
  have lw := lW_bd hG hE
  have lim := hG.2.2.2.2.2.1
  rw [← k3]
  refine x_gR rfl rfl (x_pI rfl ?_)
  rw [show ((1 : Nat) : Int) = 1 from rfl]
  have o1 : Ox I1 (up I1 3 1 0) := fun q a b => by rw [up_qf (by omega)]
  have R1 : Rst I1 8 V := f1.st (by omega) hR
  have W1 : Rwl I1 5 V := f1.wl hW
  refine x_gR rfl rfl (x_gR rfl rfl (x_cI (sp_X10_cell (n := 40) rfl (by omega) (by omega) (by omega) (by omega) ?_)))
  rw [up_q (by omega), t.1]
  dsimp only
  refine x_for (lD V k + 1) (fun i av μ => ∃ I2 : IM, av = [.ref 0, .int (i32 (lk V k : Nat)), .int (i32 ((lD V k : Int) + 1)), .int (i32 i)] ∧ μ = ME 8 I2 J ∧ Ox I1 I2 ∧ Tx I2 3 4 (plT V k i)) ?_ ?_ (Nat.zero_le _) ⟨_, rfl, rfl, o1, Tx0⟩
  · rintro i av μ hi ⟨I2, rfl, rfl, f2, T2⟩ hJ
    have len := plT_len hG lr i (by omega)
    have g := lr i (by omega)
    have n := gd_nm hG g.1 g.2
    dsimp only [bX10_printLoop, bX10_printLoop_1]
    ((try rw [show (0 : Int32) = i32 (0) from rfl]); (try rw [show (1 : Int32) = i32 (1) from rfl]); (try rw [show (47 : Int32) = i32 (47) from rfl]); (try simp only [i32_add, i32_sub, i32_mul, i32_neg]))
    have nm : ∀ I3 : IM, Ox I1 I3 → Tx I3 3 4 (plT V k i ++ (if 0 < i then [47] else [])) →
        (gR 10 2 0 fun r15 => gR 10 10 0 fun r16 => ob 4 r16 (cI SX4_markAt [.ref r16, .int (i32 (lk V k : Nat)), .int (i32 i)] fun v17 => gR 10 1 0 fun r18 => ob 9 r15 (cV SX9_writeName [.ref r15, .int v17, .ref r18] <| fx bX10_printLoop 1 [.ref 0, .int (i32 (lk V k : Nat)), .int (i32 ((lD V k : Int) + 1)), .int (i32 ((i : Int) + 1))]))) (ME 8 I3 J) Q := by
      intro I3 f3 T3
      have hs : (if 0 < i then ([47] : List Int) else []).length ≤ 1 := by split <;> simp
      refine x_gR rfl rfl (x_gR rfl rfl (x_ob rfl (x_cI (sp_X4_markAt k4 (z := (lD V k : Int) + 1) (by rw [f3 192 (by omega) (by omega)]; exact t.1) (by omega) (by omega) ?_))))
      rw [if_pos (by omega), f3 195 (by omega) (by omega), t.2.2.2 i (by omega)]
      refine x_gR rfl rfl (x_ob rfl (x_cV (sp_X9_writeName hG (W1.keep fun d hd => f3 _ (by omega) (by omega)) g.1 g.2 T3 (by simp; omega) fun I4 f4 T4 => hJ _ _ ⟨I4, rfl, rfl, f3.trans f4, T4⟩)))
    refine x_le (by omega) (by omega) (fun h => by omega) (fun _ => x_le (by omega) (by omega) (fun hz => ?_) (fun hz => ?_))
    · refine nm I2 f2 ?_
      rw [if_neg (by omega), List.append_nil]; exact T2
    · refine x_gR rfl rfl (x_ob rfl (x_cV (o_add T2 (by omega) (by omega) fun I3 f3 T3 => ?_)))
      refine nm I3 (f2.trans f3) ?_
      rw [if_pos (by omega)]; exact T3
  · rintro av μ ⟨I2, rfl, rfl, f2, T2⟩
    have len := plT_len hG lr (lD V k + 1) (by omega)
    dsimp only [bX10_printLoop, bX10_printLoop_1]
    ((try rw [show (0 : Int32) = i32 (0) from rfl]); (try rw [show (32 : Int32) = i32 (32) from rfl]); (try rw [show (33 : Int32) = i32 (33) from rfl]); (try rw [show (3 : Int32) = i32 (3) from rfl]); (try simp only [i32_add, i32_sub, i32_mul, i32_neg]))
    refine x_le (by omega) (by omega) (fun _ => ?_) (fun h => by omega)
    refine x_gR rfl rfl (x_ob rfl (x_cV (o_add T2 (by omega) (by omega) fun I3 f3 T3 => ?_)))
    have f3 := f2.trans f3
    refine x_gR rfl rfl (x_gR rfl rfl (x_gR rfl rfl (x_cI (sp_X10_cell (n := 40) rfl (by omega) (by omega) (by omega) (by omega) ?_))))
    rw [f3 194 (by omega) (by omega), t.2.2.1]
    refine x_ob rfl (x_cV (sp_X7_addNumber (by omega) T3 (by simp; omega) fun I4 f4 T4 => ?_))
    have f4 := f3.trans f4
    have n := num_len (v := lC V k) (by omega)
    refine x_gR rfl rfl (x_gR rfl rfl (x_obs st8 (x_cI (sp_X6_settingOf st8 st8 (R1.keep fun d hd => f4 _ (by omega) (by omega)) (by omega) (by omega) ?_))))
    refine x_ob rfl (x_cI (sp_X4_closes k4 (c := lC V k) (w := lW V k) (by rw [f4 194 (by omega) (by omega)]; exact t.2.2.1) (by rw [f4 193 (by omega) (by omega)]; exact t.2.1) (by omega) (by omega) (by omega) ?_))
    unfold clo at hQ
    simp only [decide_eq_true_eq] at hQ
    by_cases hc : 1000 * (lC V k * lC V k) ≤ lW V k * vS V 3 * vS V 3
    · rw [if_pos hc]
      rw [if_pos hc, List.append_nil] at hQ
      refine x_eq (by omega) (by omega) (fun h => by omega) (fun _ => x_gR rfl rfl (x_gI rfl ?_))
      rw [show I4 3 ((1 : Nat) : Int) = _ from T4.1]
      exact x_rI (hQ I4 8 st8 (f1.cf.cx f4) T4)
    · rw [if_neg hc]
      rw [if_neg hc] at hQ
      refine x_brr (by trivial) (x_gR rfl rfl (x_ob rfl (x_cV (o_add T4 (by simp only [List.length_append, List.length_cons, List.length_nil]; omega) (by omega) fun I5 f5 T5 => x_gR rfl rfl (x_gI rfl ?_)))))
      rw [show I5 3 ((1 : Nat) : Int) = _ from T5.1]
      exact x_rI (hQ I5 8 st8 (f1.cf.cx (f4.trans f5)) T5)
theorem Oy.rk {I I' : IM} (h : Oy I I') (hR : Rk I V) : Rk I' V := by
  unfold Rk at *
  refine ⟨hR.1.keep (h.2 10 (by omega)) (h.1 208 (by omega) (by omega)) (h.1 209 (by omega) (by omega)) (h.1 210 (by omega) (by omega)), ?_, ?_⟩
  · rw [h.1 211 (by omega) (by omega)]; exact hR.2.1
  · rw [h.1 212 (by omega) (by omega)]; exact hR.2.2
theorem Oy.wy {I I' : IM} {x t : Int} (h : Oy I I') (hR : Wy I V x t) : Wy I' V x t := by
  unfold Wy at *
  rw [h.2 17 (by omega), h.1 213 (by omega) (by omega)]; exact hR
theorem rq_printLoop (h : Rn I V H) (ha : IR a) : RqO SX11_printLoop [.ref 200, .int (i32 a)] e I J (plA V a) := by
  intro Q hQ hN
  obtain ⟨hG, hGH, hB, hW, hH⟩ := h
  have m := hG.1
  refine x_in (Nat.le_of_ble_eq_true rfl) ?_
  dsimp only [bX11_printLoop, bX11_printLoop_0]
  ((try rw [show (0 : Int32) = i32 (0) from rfl]); (try rw [show (12 : Int32) = i32 (12) from rfl]); (try simp only [i32_add, i32_sub, i32_mul, i32_neg]))
  unfold plA at hQ hN
  refine x_ob rfl (x_cI (sp_X11_isLoop hG hW ha fun I1 f1 f1b R1 => x_ob rfl (x_cI (sp_X11_is (by split <;> simp) ?_))))
  have r1 := (rkf0 f1 f1b).1
  dsimp only
  by_cases h1 : 0 ≤ a ∧ a ≤ (nL V : Int) - 1
  · rw [if_pos h1]
    rw [if_pos (by omega)] at hQ
    have hQ := hQ _ rfl
    refine x_eq (by omega) (by omega) (fun h => by omega) (fun _ => x_pI rfl ?_)
    rw [show ((31 : Nat) : Int) = 31 from rfl]
    obtain ⟨k1, k2, k3⟩ := lke_ok (V := V) h1.1 (by omega)
    generalize lke V a = k at *
    have hE := (isL_E k2).1
    have D := lD_ok hG hE
    have lr := lM_rg hG hE
    have lc := lC_bd hG hE
    rw [← k3]
    have R2 : Rk (up I1 200 0 (1 - 1)) V := R1.told
    have r2 := r1.trans (Rfr.told (I := I1) (v := 1 - 1))
    have t2 : up I1 200 0 (1 - 1) 200 0 = 0 := by rw [up_self]; rfl
    generalize up I1 200 0 (1 - 1) = I2 at *
    have y2 : Oy I2 (up I2 200 31 0) := ⟨fun q a b => up_qf a, fun k a => up_k a⟩
    have T2 : Ty (up I2 200 31 0) 31 216 [] := Ty0
    generalize up I2 200 31 0 = I3 at *
    have W3 : Rrw I3 201 0 V := (r2.rw' hW).keep (y2.1 201 (by omega) (by omega))
    refine x_ob rfl (x_cV (sp_X11_goesLoop hG W3 (y2.rk R2) k1 k2 fun I4 f4 y4 => ?_))
    refine x_ob rfl (x_cI (sp_X11_loopEdge hG (f4.rk (y2.rk R2)) k1 k2 (x_nz (by omega) (by omega) (by omega) ?_)))
    rw [i32_div (by omega) (by omega) (by omega) (by omega), Int.tdiv_eq_ediv_of_nonneg (by omega)]
    have g := lr 0 (by omega)
    have g : 0 ≤ (k : Int) / 12 ∧ (k : Int) / 12 < vm V := g
    have n := gd_nm hG g.1 g.2
    have W4 : Rrw I4 201 0 V := f4.rw' W3
    refine x_ob rfl (x_cI (sp_X11_of (by omega) (by omega) (by omega) (by omega) ?_))
    rw [W_nm W4 g.1 g.2]
    have T4 : Ty I4 31 216 [] := ⟨by rw [f4.2 31 (by omega)]; exact T2.1, fun k hk => absurd hk (Nat.not_lt_zero k)⟩
    have R4 := f4.rk (y2.rk R2)
    have r4 : ∀ I' : IM, Oy I4 I' → Ry I I' ∧ I' 200 0 = 0 := by
      intro I' h
      refine ⟨⟨fun q hq => ?_, fun k hk => ?_⟩, ?_⟩
      · rw [h.1 q (by omega) (by omega), f4.1 q (by omega) (by omega), y2.1 q (by omega) (by omega), r2.1 q (by omega)]
      · rw [h.2 k (by omega), f4.2 k (by omega), y2.2 k (by omega), r2.2 k (by omega)]
      · rw [h.2 0 (by omega), f4.2 0 (by omega), y2.2 0 (by omega)]; exact t2
    refine x_ob rfl (x_cV (sp_X11_saysLetters 7 (vN V ((k : Int) / 12)) _ I4 _ n.1 (by have := n.2.1; omega) n.2.1 n.2.2 T4 (by have := n.2.1; simp; omega) fun I5 f5 T5 => ?_))
    have T5 : Ty I5 31 216 (plT V k 1) := by
      simp only [plT, List.nil_append]
      rw [if_neg (by omega), List.nil_append]
      exact T5
    refine x_for (lD V k) (fun i av μ => ∃ I6 : IM, av = [.ref 200, .int (i32 (lk V k : Nat)), .int (i32 i)] ∧ μ = ME e I6 J ∧ Oy I4 I6 ∧ Ty I6 31 216 (plT V k (i + 1))) ?_ ?_ (Nat.zero_le _) ⟨I5, rfl, rfl, f5, T5⟩
    · rintro i av μ hi ⟨I6, rfl, rfl, f6, T6⟩ hJ
      have len := plT_len hG lr (i + 1) (by omega)
      have g := lr (i + 1) (by omega)
      have n := gd_nm hG g.1 g.2
      dsimp only [bX11_printLoop, bX11_printLoop_1]
      ((try rw [show (0 : Int32) = i32 (0) from rfl]); (try rw [show (1 : Int32) = i32 (1) from rfl]); (try rw [show (47 : Int32) = i32 (47) from rfl]); (try simp only [i32_add, i32_sub, i32_mul, i32_neg]))
      have y6 := f6.wy y4
      refine x_gI rfl ?_
      rw [show I6 200 ((17 : Nat) : Int) = (lD V k : Int) + 1 by rw [D.1]; exact y6.1, i32_sub]
      refine x_le (by omega) (by omega) (fun h => by omega) (fun _ => ?_)
      refine x_ob rfl (x_cV (sp_X11_says T6 (by omega) (by omega) fun I7 f7 T7 => ?_))
      have f7 := f6.trans f7
      refine x_gR rfl rfl (x_aI (n := 12) rfl (by omega) (by omega) (by omega) ?_)
      rw [(f7.wy y4).2 i (by omega)]
      have e1 : pth V ((k : Int) / 12) ((k : Int) % 12) i = lM V k (i + 1) := rfl
      rw [e1]
      refine x_ob rfl (x_cI (sp_X11_of (by omega) (by omega) (by omega) (by omega) ?_))
      rw [W_nm (W4.keep (f7.1 201 (by omega) (by omega))) g.1 g.2]
      refine x_ob rfl (x_cV (sp_X11_saysLetters 7 (vN V (lM V k (i + 1))) _ I7 _ n.1 (by have := n.2.1; omega) n.2.1 n.2.2 T7 (by have := n.2.1; simp; omega) fun I8 f8 T8 => ?_))
      refine hJ _ _ ⟨I8, rfl, rfl, f7.trans f8, ?_⟩
      have e2 : plT V k (i + 1 + 1) = (plT V k (i + 1) ++ (if 0 < i + 1 then [47] else [])) ++ nam (vN V (lM V k (i + 1))) := rfl
      rw [e2, if_pos (by omega)]
      exact T8
    · rintro av μ ⟨I6, rfl, rfl, f6, T6⟩
      have len := plT_len hG lr (lD V k + 1) (by omega)
      dsimp only [bX11_printLoop, bX11_printLoop_1]
      ((try rw [show (0 : Int32) = i32 (0) from rfl]); (try rw [show (1 : Int32) = i32 (1) from rfl]); (try rw [show (32 : Int32) = i32 (32) from rfl]); (try rw [show (33 : Int32) = i32 (33) from rfl]); (try simp only [i32_add, i32_sub, i32_mul, i32_neg]))
      have y6 := f6.wy y4
      refine x_gI rfl ?_
      rw [show I6 200 ((17 : Nat) : Int) = (lD V k : Int) + 1 by rw [D.1]; exact y6.1, i32_sub]
      refine x_le (by omega) (by omega) (fun _ => ?_) (fun h => by omega)
      refine x_ob rfl (x_cV (sp_X11_says T6 (by omega) (by omega) fun I7 f7 T7 => ?_))
      have f7 := f6.trans f7
      have W7 := W4.keep (f7.1 201 (by omega) (by omega))
      have R7 := f7.rk R4
      refine x_ob rfl (x_cI (sp_X11_misclosure hG W7 R7 k1 k2 fun I8 f8 => ?_))
      have T8 : Ty I8 31 216 (plT V k (lD V k + 1) ++ [32]) := ⟨by rw [f8.2 31 (by omega)]; exact T7.1, fun k hk => by rw [f8.1 216 (by omega) (by omega)]; exact T7.2 k hk⟩
      have nl := num_len (v := lC V k) (by omega)
      refine x_ob rfl (x_cV (sp_X11_saysNumber (by omega) T8 (by simp; omega) fun I9 f9 T9 => ?_))
      refine x_ob rfl (x_cI (sp_X11_closes hG ((f8.rw' W7).keep (f9.1 201 (by omega) (by omega))) (f9.rk (f8.rk R7)) k1 k2 fun Ia fa => ?_))
      have Ta : Ty Ia 31 216 ((plT V k (lD V k + 1) ++ [32]) ++ num (lC V k)) := ⟨by rw [fa.2 31 (by omega)]; exact T9.1, fun k hk => by rw [fa.1 216 (by omega) (by omega)]; exact T9.2 k hk⟩
      have fin : ∀ I' : IM, Oy Ia I' → Ry I I' ∧ I' 200 0 = 0 := by
        intro I' h
        refine ⟨⟨fun q hq => ?_, fun k hk => ?_⟩, ?_⟩
        · rw [h.1 q (by omega) (by omega), fa.1 q (by omega) (by omega), f9.1 q (by omega) (by omega), f8.1 q (by omega) (by omega), f7.1 q (by omega) (by omega), f4.1 q (by omega) (by omega), y2.1 q (by omega) (by omega), r2.1 q (by omega)]
        · rw [h.2 k (by omega), fa.2 k (by omega), f9.2 k (by omega), f8.2 k (by omega), f7.2 k (by omega), f4.2 k (by omega), y2.2 k (by omega), r2.2 k (by omega)]
        · rw [h.2 0 (by omega), fa.2 0 (by omega), f9.2 0 (by omega), f8.2 0 (by omega), f7.2 0 (by omega), f4.2 0 (by omega), y2.2 0 (by omega)]; exact t2
      dsimp only
      by_cases hc : clo V (vS V 3) k = true
      · rw [if_pos hc]
        rw [if_pos hc, List.append_nil] at hQ
        refine x_eq (by omega) (by omega) (fun h => by omega) (fun _ => x_gI rfl ?_)
        rw [show Ia 200 ((31 : Nat) : Int) = _ from Ta.1]
        have f := fin Ia (Oy.refl Ia)
        exact x_rI (hQ Ia f.1 Ta f.2)
      · rw [if_neg hc]
        rw [if_neg hc] at hQ
        refine x_brr (by trivial) (x_ob rfl (x_cV (sp_X11_says Ta (by simp only [List.length_append, List.length_cons, List.length_nil]; omega) (by omega) fun Ib fb Tb => x_gI rfl ?_)))
        rw [show Ib 200 ((31 : Nat) : Int) = _ from Tb.1]
        have f := fin Ib fb
        exact x_rI (hQ Ib f.1 Tb f.2)
  · rw [if_neg h1]
    exact x_brr (by trivial) (x_rI (hN (by rw [if_neg (by omega)]) _ 0 (r1.trans Rfr.told) up_self))
end Out58e
