/-! ===== the class is changed ===== -/
/-- what a change leaves as it was -/
def Cg (I I' : IM) : Prop := (∀ q, q < 8 ∨ (30 ≤ q ∧ q < 41) ∨ q = 170 ∨ 200 ≤ q → I' q = I q) ∧ dg0 I'
def Cc (S : ST) (as : List Value) (e : Nat) (I J : IM) (V : Vw) (H : Hw) (hd n : Nat) (L : Nat → Vw × Hw) (r : An) (V' : Vw) (H' : Hw) : Prop :=
  ∀ Q : Post, (∀ v : Int, r = .inl v → ∀ (I' : IM) (e' : Nat), Cg I I' → e' ∈ stLs → Rst I' 8 V' → Rht I' 8 H' → HI I' ((hd + 1) % 10) (min (n + 1) 10) (pushL (V, H) L) → Q (.inl (some (.int (i32 v)))) (ME e' I' J)) →
    (∀ k : Nat, r = .inr k → Q (.inr k) (ME e I J)) → S as (ME e I J) Q
def an_add (V : Vw) (a b c d t : Int) : An := if areM V a b = 1 then (if a ≠ b ∧ (0 ≤ c ∧ c ≤ 1) ∧ (-9999 ≤ d ∧ d ≤ 9999) ∧ (-40 ≤ t ∧ t ≤ 60) then (if vn V < 40 then .inl (vn V) else .inr 3) else .inr 2) else .inr 1
def an_strike (V : Vw) (s : Int) : An := if 0 ≤ s ∧ s < vn V then .inl (vG V 5 s) else .inr 1
def an_swap (V : Vw) (s d : Int) : An := if 0 ≤ s ∧ s < vn V then (if -9999 ≤ d ∧ d ≤ 9999 then .inl (1 - vG V 2 s) else .inr 2) else .inr 1
def swV (V : Vw) (s d : Int) : Vw := stG (stG V 3 s d) 2 s (1 - vG V 2 s)
def an_fix (V : Vw) (H : Hw) (a h : Int) : An := if 0 ≤ a ∧ a < vm V then (if -99999 ≤ h ∧ h ≤ 99999 then .inl (hb H a) else .inr 2) else .inr 1
def frH (H : Hw) (a : Int) : Hw := (fun k => if k = a then 0 else hb H k, H.2.1, H.2.2)
def an_free (V : Vw) (H : Hw) (a : Int) : An := if 0 ≤ a ∧ a < vm V then (if hb H a = 1 then .inl (ctH (hb (frH H a)) (vm V) : Nat) else .inr 3) else .inr 1
def an_relax (V : Vw) (H : Hw) (a : Int) : An := if 1 ≤ a ∧ a ≤ 50 then .inl ((rbs V a.toNat H).1 : Nat) else .inr 2
def teV (V : Vw) (x : Int) : Vw := stS (stS V 5 x) 4 1
def an_tell (V : Vw) (x : Int) : An := if -999 ≤ x ∧ x ≤ 999 then .inl (err V) else .inr 2
def an_sets (V : Vw) (w x : Int) : An := if 0 ≤ w ∧ w < 4 ∧ seL w ≤ x ∧ x ≤ seU w then .inl (vS V w) else .inr 2
section Law90
variable {e : Nat} {I J : IM} {Q : Post} {V : Vw} {H : Hw} {a b c d t v s w x : Int} {hd n : Nat} {L : Nat → Vw × Hw}
theorem keep_cn {I1 : IM} (h : Cn I V H) (f : ∀ p, p < 41 ∨ 153 ≤ p → I1 p = I p) : Cn I1 V H := by
  obtain ⟨hG, hGH, hB, hR, hH, hW, hd⟩ := h
  exact ⟨hG, hGH, hB, hR.keep fun d hd => f _ (by omega), hH.keep fun d hd => f _ (by omega), hW.keep fun d hd => f _ (by omega), fun x hx => by rw [f 190 (by omega)]; exact hd x hx⟩
theorem cc_addSight (h : Cn I V H) (hI : HI I hd n L) (he : e ∈ stLs) (ha : IR a) (hb : IR b) (hc : IR c) (hdd : IR d) (ht : IR t) : Cc SX10_addSight [.ref 0, .int (i32 a), .int (i32 b), .int (i32 c), .int (i32 d), .int (i32 t)] e I J V H hd n L (an_add V a b c d t) (adV V a b c d t) H := by
  intro Q hQ hX
  have hcn := h
  obtain ⟨hG, hGH, hB, hR, hH, hW, hdg⟩ := h
  have m := hG.1
  have nn := hG.2.1
  refine x_in (Nat.le_of_ble_eq_true rfl) ?_
  dsimp only [bX10_addSight, bX10_addSight_0]
  ((try rw [show (0 : Int32) = i32 (0) from rfl]); (try rw [show (1 : Int32) = i32 (1) from rfl]); (try rw [show (-9999 : Int32) = i32 (-9999) from rfl]); (try rw [show (9999 : Int32) = i32 (9999) from rfl]); (try rw [show (-40 : Int32) = i32 (-40) from rfl]); (try rw [show (60 : Int32) = i32 (60) from rfl]); (try rw [show (40 : Int32) = i32 (40) from rfl]); (try simp only [i32_add, i32_sub, i32_mul, i32_neg]))
  unfold an_add at hQ hX
  have hbad : areM V a b = 0 → Q (.inr 1) (ME e I J) := fun h => hX 1 (by rw [if_neg (by omega)])
  refine x_ob rfl (x_cV (sp_X10_needMark m hW ha (fun h1 h2 => ?_) (fun h1 => hbad (areM_0 (by omega)))))
  refine x_ob rfl (x_cV (sp_X10_needMark m hW hb (fun h3 h4 => ?_) (fun h1 => hbad (areM_0 (by omega)))))
  rw [if_pos (areM_1 h1 h2 h3 h4)] at hQ hX
  refine x_eq ha hb (fun hab => x_thr (hX 2 (by rw [if_neg (fun q => q.1 hab)]))) (fun hab => ?_)
  refine x_cV (sp_X10_needRange hc (by omega) (by omega) (fun c1 c2 => ?_) (fun c1 => hX 2 (by rw [if_neg (by omega)])))
  refine x_cV (sp_X10_needRange hdd (by omega) (by omega) (fun d1 d2 => ?_) (fun c1 => hX 2 (by rw [if_neg (by omega)])))
  refine x_cV (sp_X10_needRange ht (by omega) (by omega) (fun t1 t2 => ?_) (fun c1 => hX 2 (by rw [if_neg (by omega)])))
  rw [if_pos ⟨hab, ⟨c1, c2⟩, ⟨d1, d2⟩, t1, t2⟩] at hQ hX
  refine x_gR rfl rfl (x_gIs st8 ?_)
  rw [show I 8 ((6 : Nat) : Int) = ((vn V : Nat) : Int) from R_n hR]
  refine x_lt (by omega) (by omega) (fun hn => ?_) (fun hn => x_thr (hX 3 (by rw [if_neg (by omega)])))
  rw [if_pos (by omega)] at hQ
  refine x_gR rfl rfl (x_gR rfl rfl (x_ob rfl (x_cV (sp_X3_keep st8 (by omega) hI hG hR hH fun I1 f1 I1h => ?_))))
  obtain ⟨_, _, _, R1, H1, W1, d1'⟩ := keep_cn hcn f1
  refine x_gR rfl rfl (x_obs st8 (x_cI (sp_X6_add st8 R1 (by omega) fun I2 f2 g2 R2 => ?_)))
  refine x_rI (hQ _ rfl I2 e ⟨fun q hq => by rw [f2 q (by omega), f1 q (by omega)], fun x hx => by rw [f2 190 (by omega)]; exact d1' x hx⟩ he R2 (H1.keep fun d hd => g2 d (by omega) (by omega)) ?_)
  obtain ⟨i1, i2, i3, i4, i5⟩ := I1h
  refine ⟨by rw [f2 41 (by omega)]; exact i1, by rw [f2 41 (by omega)]; exact i2, i3, i4, fun j hj => ?_⟩
  have t := i5 j hj
  exact ⟨t.1, t.2.1, t.2.2.1.keep fun d hd => f2 _ (by omega), t.2.2.2.keep fun d hd => f2 _ (by omega)⟩
/-- a history whose rows stay -/
theorem HI.keepx {I2 : IM} (h : HI I hd n L) (f : ∀ p, 41 ≤ p → p < 153 → I2 p = I p) : HI I2 hd n L := by
  obtain ⟨i1, i2, i3, i4, i5⟩ := h
  refine ⟨by rw [f 41 (by omega) (by omega)]; exact i1, by rw [f 41 (by omega) (by omega)]; exact i2, i3, i4, fun j hj => ?_⟩
  have t := i5 j hj
  exact ⟨t.1, t.2.1, t.2.2.1.keep fun d hd => f _ (by omega) (by omega), t.2.2.2.keep fun d hd => f _ (by omega) (by omega)⟩
theorem cc_strike (h : Cn I V H) (hI : HI I hd n L) (he : e ∈ stLs) (hs : IR s) (hx : x = 0 ∨ x = 1) : Cc SX10_strike [.ref 0, .int (i32 s), .int (i32 x)] e I J V H hd n L (an_strike V s) (stG V 5 s x) H := by
  intro Q hQ hX
  have hcn := h
  obtain ⟨hG, hGH, hB, hR, hH, hW, hdg⟩ := h
  have nn := hG.2.1
  refine x_in (Nat.le_of_ble_eq_true rfl) ?_
  dsimp only [bX10_strike, bX10_strike_0]
  ((try rw [show (0 : Int32) = i32 (0) from rfl]); (try rw [show (1 : Int32) = i32 (1) from rfl]); (try simp only [i32_add, i32_sub, i32_mul, i32_neg]))
  unfold an_strike at hQ hX
  refine x_ob rfl (x_cV (sp_X10_needSight nn hR hs (fun h1 h2 => ?_) (fun h1 => hX 1 (by rw [if_neg (by omega)]))))
  rw [if_pos ⟨h1, h2⟩] at hQ
  refine x_gR rfl rfl (x_gR rfl rfl (x_ob rfl (x_cV (sp_X3_keep st8 (by omega) hI hG hR hH fun I1 f1 I1h => ?_))))
  obtain ⟨_, _, _, R1, H1, W1, d1'⟩ := keep_cn hcn f1
  have g5 := (gd_s hG h1 h2).2.2.2.2.2.2
  have fin : ∀ x' : Int, x' = x → Q (.inl (some (.int (i32 (vG V 5 s))))) (ME e (up I1 18 s x') J) := fun x' hx' => by
    subst hx'
    exact hQ _ rfl _ e ⟨fun q hq => by rw [up_qf (by omega)]; exact f1 q (by omega), fun y hy => by rw [up_q (by omega)]; exact d1' y hy⟩ he (Rst_st5 (q := 8) R1) (H1.keep fun d hd => up_qf (by omega)) (I1h.keepx fun p a b => up_qf (by omega))
  refine x_gR rfl rfl (x_obs st8 (x_cI (sp_X6_counts he st8 hG R1 h1 h2 ?_)))
  by_cases h5 : vG V 5 s = 0
  · rw [if_pos h5]
    rw [h5] at fin
    refine x_eq (by omega) (by omega) (fun h => by omega) (fun _ => x_gR rfl rfl (x_gRs st8 rfl ?_))
    refine x_eq (by omega) (by omega) (fun h => ?_) (fun h => ?_)
    · exact x_cV (sp_X10_put (n := 40) rfl h1 (by omega) (by omega) (by omega) (x_rZ (v := 0) (by omega) (fin 0 h.symm)))
    · exact x_cV (sp_X10_put (n := 40) rfl h1 (by omega) (by omega) (by omega) (x_rZ (v := 0) (by omega) (fin 1 (by omega))))
  · rw [if_neg h5]
    rw [show vG V 5 s = 1 by omega] at fin
    refine x_brr (by trivial) (x_gR rfl rfl (x_gRs st8 rfl ?_))
    refine x_eq (by omega) (by omega) (fun h => ?_) (fun h => ?_)
    · exact x_cV (sp_X10_put (n := 40) rfl h1 (by omega) (by omega) (by omega) (x_rZ (v := 1) (by omega) (fin 0 h.symm)))
    · exact x_cV (sp_X10_put (n := 40) rfl h1 (by omega) (by omega) (by omega) (x_rZ (v := 1) (by omega) (fin 1 (by omega))))
theorem Rst_sw {q : Nat} (hR : Rst I q V) : Rst (up (up I (q + 8) s d) (q + 7) s (1 - vG V 2 s)) q (swV V s d) := by
  obtain ⟨r0, r1, r2, r3, _, _, _, s0, s1, s2, s3, s4, s5⟩ := hR
  have e : ∀ f s', vG (swV V s d) f s' = if f = 2 ∧ s' = s then 1 - vG V 2 s else if f = 3 ∧ s' = s then d else vG V f s' := fun _ _ => rfl
  refine ⟨fun i a b => by rw [up_q (by omega), up_q (by omega)]; exact r0 i a b, by rw [up_q (by omega), up_q (by omega)]; exact r1, fun h => by rw [up_q (by omega), up_q (by omega)]; exact r2 h, by rw [up_q (by omega), up_q (by omega)]; exact r3, trivial, trivial, trivial, fun i a b => ?_, fun i a b => ?_, fun i a b => ?_, fun i a b => ?_, fun i a b => ?_, fun i a b => ?_⟩
  · rw [up_q (by omega), up_q (by omega), e, if_neg (by omega), if_neg (by omega)]; exact s0 i a b
  · rw [up_q (by omega), up_q (by omega), e, if_neg (by omega), if_neg (by omega)]; exact s1 i a b
  · rw [up_at, e]
    by_cases h : i = s
    · rw [if_pos h, if_pos ⟨rfl, h⟩]
    · rw [if_neg h, if_neg (fun q => h q.2), if_neg (by omega), up_q (by omega)]; exact s2 i a b
  · rw [e, if_neg (by omega), up_q (by omega), up_at]
    by_cases h : i = s
    · rw [if_pos h, if_pos ⟨rfl, h⟩]
    · rw [if_neg h, if_neg (fun q => h q.2)]; exact s3 i a b
  · rw [up_q (by omega), up_q (by omega), e, if_neg (by omega), if_neg (by omega)]; exact s4 i a b
  · rw [up_q (by omega), up_q (by omega), e, if_neg (by omega), if_neg (by omega)]; exact s5 i a b
theorem cc_swap (h : Cn I V H) (hI : HI I hd n L) (he : e ∈ stLs) (hs : IR s) (hdd : IR d) : Cc SX10_swap [.ref 0, .int (i32 s), .int (i32 d)] e I J V H hd n L (an_swap V s d) (swV V s d) H := by
  intro Q hQ hX
  have hcn := h
  obtain ⟨hG, hGH, hB, hR, hH, hW, hdg⟩ := h
  have nn := hG.2.1
  refine x_in (Nat.le_of_ble_eq_true rfl) ?_
  dsimp only [bX10_swap, bX10_swap_0]
  ((try rw [show (0 : Int32) = i32 (0) from rfl]); (try rw [show (1 : Int32) = i32 (1) from rfl]); (try rw [show (-9999 : Int32) = i32 (-9999) from rfl]); (try rw [show (9999 : Int32) = i32 (9999) from rfl]); (try simp only [i32_add, i32_sub, i32_mul, i32_neg]))
  unfold an_swap at hQ hX
  refine x_ob rfl (x_cV (sp_X10_needSight nn hR hs (fun h1 h2 => ?_) (fun h1 => hX 1 (by rw [if_neg (by omega)]))))
  rw [if_pos ⟨h1, h2⟩] at hQ hX
  refine x_cV (sp_X10_needRange hdd (by omega) (by omega) (fun d1 d2 => ?_) (fun c1 => hX 2 (by rw [if_neg (by omega)])))
  rw [if_pos ⟨d1, d2⟩] at hQ
  refine x_gR rfl rfl (x_gR rfl rfl (x_ob rfl (x_cV (sp_X3_keep st8 (by omega) hI hG hR hH fun I1 f1 I1h => ?_))))
  obtain ⟨_, _, _, R1, H1, W1, d1'⟩ := keep_cn hcn f1
  have g2 := (gd_s hG h1 h2).2.2.2.1
  have fin : ∀ y : Int, y = 1 - vG V 2 s → Q (.inl (some (.int (i32 y)))) (ME e (up (up I1 16 s d) 15 s y) J) := fun y hy => by
    subst hy
    exact hQ _ rfl _ e ⟨fun q hq => by rw [up_qf (by omega), up_qf (by omega)]; exact f1 q (by omega), fun y hy => by rw [up_q (by omega), up_q (by omega)]; exact d1' y hy⟩ he (Rst_sw (q := 8) R1) (H1.keep fun d hd => by rw [up_qf (by omega), up_qf (by omega)]) (I1h.keepx fun p a b => by rw [up_qf (by omega), up_qf (by omega)])
  refine x_gR rfl rfl (x_gRs st8 rfl (x_cI (sp_X10_cell (n := 40) rfl h1 (by omega) (by omega) (by omega) ?_)))
  dsimp only
  rw [R_s2 R1 h1 h2]
  refine x_eq (by omega) (by omega) (fun h => ?_) (fun h => ?_)
  · refine x_gR rfl rfl (x_gRs st8 rfl (x_cV (sp_X10_put (n := 40) rfl h1 (by omega) (by omega) (by omega) ?_)))
    exact x_gR rfl rfl (x_gRs st8 rfl (x_cV (sp_X10_put (n := 40) rfl h1 (by omega) (by omega) (by omega) (x_rI (fin 1 (by omega))))))
  · refine x_gR rfl rfl (x_gRs st8 rfl (x_cV (sp_X10_put (n := 40) rfl h1 (by omega) (by omega) (by omega) ?_)))
    exact x_gR rfl rfl (x_gRs st8 rfl (x_cV (sp_X10_put (n := 40) rfl h1 (by omega) (by omega) (by omega) (x_rI (fin 0 (by omega))))))
theorem cc_fix (h : Cn I V H) (hI : HI I hd n L) (he : e ∈ stLs) (ha : IR a) (hx : IR x) : Cc SX10_fix [.ref 0, .int (i32 a), .int (i32 x)] e I J V H hd n L (an_fix V H a x) V (bnH H a x) := by
  intro Q hQ hX
  have hcn := h
  obtain ⟨hG, hGH, hB, hR, hH, hW, hdg⟩ := h
  have m := hG.1
  refine x_in (Nat.le_of_ble_eq_true rfl) ?_
  dsimp only [bX10_fix, bX10_fix_0]
  ((try rw [show (-99999 : Int32) = i32 (-99999) from rfl]); (try rw [show (99999 : Int32) = i32 (99999) from rfl]); (try simp only [i32_add, i32_sub, i32_mul, i32_neg]))
  unfold an_fix at hQ hX
  refine x_ob rfl (x_cV (sp_X10_needMark m hW ha (fun h1 h2 => ?_) (fun h1 => hX 1 (by rw [if_neg (by omega)]))))
  rw [if_pos ⟨h1, h2⟩] at hQ hX
  refine x_cV (sp_X10_needRange hx (by omega) (by omega) (fun d1 d2 => ?_) (fun c1 => hX 2 (by rw [if_neg (by omega)])))
  rw [if_pos ⟨d1, d2⟩] at hQ
  refine x_gR rfl rfl (x_gR rfl rfl (x_ob rfl (x_cV (sp_X3_keep st8 (by omega) hI hG hR hH fun I1 f1 I1h => ?_))))
  obtain ⟨_, _, _, R1, H1, W1, d1'⟩ := keep_cn hcn f1
  have gb := (hGH a h1 (by omega)).1
  refine x_gR rfl rfl (x_obs st8 (x_cI (sp_X6_isBench he st8 hGH H1 ⟨h1, by omega⟩ ?_)))
  refine x_gR rfl rfl (x_obs st8 (x_cV (sp_X6_makeBench he st8 H1 ⟨h1, by omega⟩ fun I2 f2 H2 => ?_)))
  exact x_rZ gb (hQ _ rfl I2 e ⟨fun q hq => by rw [f2 q (by omega) (by omega) (by omega)]; exact f1 q (by omega), fun y hy => by rw [f2 190 (by omega) (by omega) (by omega)]; exact d1' y hy⟩ he (R1.keepH fun d hd d2 d3 d4 => f2 _ (by omega) (by omega) (by omega)) H2 (I1h.keepx fun p a b => f2 _ (by omega) (by omega) (by omega)))
theorem Rht_fr {q : Nat} (hH : Rht I q H) : Rht (up I (q + 2) a 0) q (frH H a) := by
  intro k h0 h1
  have t := hH k h0 h1
  refine ⟨?_, ?_, ?_⟩
  · rw [up_at]
    show (if k = a then 0 else I (q + 2) k) = if k = a then 0 else hb H k
    rw [t.1]
  · rw [up_q (by omega)]; exact t.2.1
  · rw [up_q (by omega)]; exact t.2.2
theorem GoodH_fr {m : Nat} (h : GoodH m H) : GoodH m (frH H a) := by
  intro k h0 h1
  have t := h k h0 h1
  have e1 : hb (frH H a) k = if k = a then 0 else hb H k := rfl
  have e2 : hh (frH H a) k = hh H k := rfl
  rw [e1, e2]
  refine ⟨?_, t.2.1, ?_, ?_⟩
  · split
    · exact Or.inl rfl
    · exact t.1
  · split
    · intro q; omega
    · exact t.2.2.1
  · intro q
    have := t.2.2.2 q
    split
    · exact ⟨rfl, this.2⟩
    · exact this
theorem cc_free (h : Cn I V H) (hI : HI I hd n L) (he : e ∈ stLs) (ha : IR a) : Cc SX10_free [.ref 0, .int (i32 a)] e I J V H hd n L (an_free V H a) V (frH H a) := by
  intro Q hQ hX
  have hcn := h
  obtain ⟨hG, hGH, hB, hR, hH, hW, hdg⟩ := h
  have m := hG.1
  refine x_in (Nat.le_of_ble_eq_true rfl) ?_
  dsimp only [bX10_free, bX10_free_0]
  ((try rw [show (0 : Int32) = i32 (0) from rfl]); (try simp only [i32_add, i32_sub, i32_mul, i32_neg]))
  unfold an_free at hQ hX
  refine x_ob rfl (x_cV (sp_X10_needMark m hW ha (fun h1 h2 => ?_) (fun h1 => hX 1 (by rw [if_neg (by omega)]))))
  rw [if_pos ⟨h1, h2⟩] at hQ hX
  have gb := (hGH a h1 (by omega)).1
  refine x_gR rfl rfl (x_obs st8 (x_cI (sp_X6_isBench he st8 hGH hH ⟨h1, by omega⟩ (x_eq (by omega) (by omega) (fun h => x_thr (hX 3 (by rw [if_neg (by omega)]))) (fun h => ?_)))))
  rw [if_pos (by omega)] at hQ
  refine x_gR rfl rfl (x_gR rfl rfl (x_ob rfl (x_cV (sp_X3_keep st8 (by omega) hI hG hR hH fun I1 f1 I1h => ?_))))
  obtain ⟨_, _, _, R1, H1, W1, d1'⟩ := keep_cn hcn f1
  refine x_gR rfl rfl (x_gRs st8 rfl (x_cV (sp_X10_put (n := 12) rfl h1 (by omega) (by omega) (by omega) ?_)))
  have H2 : Rht (up I1 10 a 0) 8 (frH H a) := Rht_fr (q := 8) H1
  have G2 : GoodH (vm V) (frH H a) := GoodH_fr hGH
  refine x_gR rfl rfl (x_obs st8 (x_cI (sp_X6_benches st8 G2 H2 ?_)))
  rw [ctH_m m (fun k a b => ((G2 k (by omega) b).2.2.2 a).1)]
  exact x_rI (hQ _ rfl _ e ⟨fun q hq => by rw [up_qf (by omega)]; exact f1 q (by omega), fun y hy => by rw [up_q (by omega)]; exact d1' y hy⟩ he (R1.keepH fun d hd d2 d3 d4 => up_qf (by omega)) H2 (I1h.keepx fun p a b => up_qf (by omega)))
theorem cc_level (h : Cn I V H) (hI : HI I hd n L) : Cc SX10_level [.ref 0] e I J V H hd n L (.inl (ctH (hh (lvl V H)) (vm V) : Nat)) V (lvl V H) := by
  intro Q hQ hX
  have hcn := h
  obtain ⟨hG, hGH, hB, hR, hH, hW, hdg⟩ := h
  have m := hG.1
  refine x_in (Nat.le_of_ble_eq_true rfl) ?_
  dsimp only [bX10_level, bX10_level_0]
  refine x_gR rfl rfl (x_gR rfl rfl (x_ob rfl (x_cV (sp_X3_keep st8 (by omega) hI hG hR hH fun I1 f1 I1h => ?_))))
  obtain ⟨_, _, _, R1, H1, W1, d1'⟩ := keep_cn hcn f1
  refine x_gR rfl rfl (x_gR rfl rfl (x_ob rfl (x_cV (sp_X0_measure st8 hG R1 W1 fun I2 f2 M2 => ?_))))
  have H2 : Rht I2 8 H := H1.keep fun d hd => f2 _ (by omega)
  have W2 := f2.wl W1
  refine x_gR rfl rfl (x_gR rfl rfl (x_ob rfl (x_cV (sp_X2_levelOut st8 st8 hG M2 W2 hGH H2 (hB.mono (by omega)) fun I3 f3 H3 => ?_))))
  have lo := lvl_ok hG hGH hB
  have fr : ∀ q, q < 10 ∨ (12 < q ∧ q < 171) ∨ (184 < q ∧ q ≠ 199) → I3 q = I1 q := fun q hq => by
    rw [f3 q (by omega) (by omega) (by omega), f2 q (by omega)]
  refine x_gR rfl rfl (x_obs st8 (x_cI (sp_X6_markedHeights st8 lo.1 H3 ?_)))
  rw [ctH_m m (fun k a b => ((lo.1 k (by omega) b).2.2.2 a).2)]
  exact x_rI (hQ _ rfl I3 8 ⟨fun q hq => by rw [fr q (by omega)]; exact f1 q (by omega), fun y hy => by rw [fr 190 (by omega)]; exact d1' y hy⟩ st8 (R1.keepH fun d hd d2 d3 d4 => fr _ (by omega)) H3 (I1h.keepx fun p a b => fr _ (by omega)))
theorem cc_relax (h : Cn I V H) (hI : HI I hd n L) (ha : IR a) : Cc SX10_relax [.ref 0, .int (i32 a)] e I J V H hd n L (an_relax V H a) V (rbs V a.toNat H).2 := by
  intro Q hQ hX
  have hcn := h
  obtain ⟨hG, hGH, hB, hR, hH, hW, hdg⟩ := h
  refine x_in (Nat.le_of_ble_eq_true rfl) ?_
  dsimp only [bX10_relax, bX10_relax_0]
  ((try rw [show (1 : Int32) = i32 (1) from rfl]); (try rw [show (50 : Int32) = i32 (50) from rfl]); (try simp only [i32_add, i32_sub, i32_mul, i32_neg]))
  unfold an_relax at hQ hX
  refine x_cV (sp_X10_needRange ha (by omega) (by omega) (fun h1 h2 => ?_) (fun c1 => hX 2 (by rw [if_neg (by omega)])))
  rw [if_pos ⟨h1, h2⟩] at hQ
  obtain ⟨z, rfl⟩ : ∃ z : Nat, a = z := ⟨a.toNat, by omega⟩
  refine x_gR rfl rfl (x_gR rfl rfl (x_ob rfl (x_cV (sp_X3_keep st8 (by omega) hI hG hR hH fun I1 f1 I1h => ?_))))
  obtain ⟨_, _, _, R1, H1, W1, d1'⟩ := keep_cn hcn f1
  refine x_gR rfl rfl (x_gR rfl rfl (x_ob rfl (x_cV (sp_X0_measure st8 hG R1 W1 fun I2 f2 M2 => ?_))))
  have H2 : Rht I2 8 H := H1.keep fun d hd => f2 _ (by omega)
  have W2 := f2.wl W1
  refine x_gR rfl rfl (x_gR rfl rfl (x_ob rfl (x_cI (sp_X2_relaxBy st8 st8 hG M2 W2 hGH H2 (hB.mono (by omega)) (n := z) (by omega) fun I3 f3 H3 => ?_))))
  have fr : ∀ q, q < 10 ∨ (12 < q ∧ q < 171) ∨ 184 < q → I3 q = I1 q := fun q hq => by
    rw [f3 q (by omega) (by omega), f2 q (by omega)]
  exact x_rI (hQ _ rfl I3 8 ⟨fun q hq => by rw [fr q (by omega)]; exact f1 q (by omega), fun y hy => by rw [fr 190 (by omega)]; exact d1' y hy⟩ st8 (R1.keepH fun d hd d2 d3 d4 => fr _ (by omega)) H3 (I1h.keepx fun p a b => fr _ (by omega)))
theorem Rst_te {q : Nat} (hR : Rst I q V) : Rst (up (up I q 1 1) q 2 x) q (teV V x) := by
  obtain ⟨r0, r1, r2, r3, _, _, _, s0, s1, s2, s3, s4, s5⟩ := hR
  have e : ∀ i, vS (teV V x) i = if i = 4 then 1 else if i = 5 then x else vS V i := fun _ => rfl
  refine ⟨fun i a b => ?_, ?_, fun _ => ?_, ?_, trivial, trivial, trivial, fun i a b => by rw [up_q (by omega), up_q (by omega)]; exact s0 i a b, fun i a b => by rw [up_q (by omega), up_q (by omega)]; exact s1 i a b, fun i a b => by rw [up_q (by omega), up_q (by omega)]; exact s2 i a b, fun i a b => by rw [up_q (by omega), up_q (by omega)]; exact s3 i a b, fun i a b => by rw [up_q (by omega), up_q (by omega)]; exact s4 i a b, fun i a b => by rw [up_q (by omega), up_q (by omega)]; exact s5 i a b⟩
  · rw [up_q (by omega), up_q (by omega), e, if_neg (by omega), if_neg (by omega)]; exact r0 i a b
  · rw [up_k (by omega), up_self, e, if_pos rfl]
  · rw [up_self, e, if_neg (by omega), if_pos rfl]
  · rw [up_k (by omega), up_k (by omega)]; exact r3
theorem Rst_s4 {q : Nat} (hR : Rst I q V) : Rst (up I q 1 0) q (stS V 4 0) := by
  obtain ⟨r0, r1, r2, r3, _, _, _, s0, s1, s2, s3, s4, s5⟩ := hR
  have e : ∀ i, vS (stS V 4 0) i = if i = 4 then 0 else vS V i := fun _ => rfl
  refine ⟨fun i a b => ?_, ?_, fun h => ?_, ?_, trivial, trivial, trivial, fun i a b => by rw [up_q (by omega)]; exact s0 i a b, fun i a b => by rw [up_q (by omega)]; exact s1 i a b, fun i a b => by rw [up_q (by omega)]; exact s2 i a b, fun i a b => by rw [up_q (by omega)]; exact s3 i a b, fun i a b => by rw [up_q (by omega)]; exact s4 i a b, fun i a b => by rw [up_q (by omega)]; exact s5 i a b⟩
  · rw [up_q (by omega), e, if_neg (by omega)]; exact r0 i a b
  · rw [up_self, e, if_pos rfl]
  · rw [e, if_pos rfl] at h; omega
  · rw [up_k (by omega)]; exact r3
theorem Rst_sw4 {q : Nat} (hR : Rst I q V) (hw : 0 ≤ w ∧ w < 4) : Rst (up I (q + 1) w x) q (stS V w x) := by
  obtain ⟨r0, r1, r2, r3, _, _, _, s0, s1, s2, s3, s4, s5⟩ := hR
  have e : ∀ i, vS (stS V w x) i = if i = w then x else vS V i := fun _ => rfl
  refine ⟨fun i a b => ?_, ?_, fun h => ?_, ?_, trivial, trivial, trivial, fun i a b => by rw [up_q (by omega)]; exact s0 i a b, fun i a b => by rw [up_q (by omega)]; exact s1 i a b, fun i a b => by rw [up_q (by omega)]; exact s2 i a b, fun i a b => by rw [up_q (by omega)]; exact s3 i a b, fun i a b => by rw [up_q (by omega)]; exact s4 i a b, fun i a b => by rw [up_q (by omega)]; exact s5 i a b⟩
  · rw [up_at, e]
    split
    · rfl
    · exact r0 i a b
  · rw [up_q (by omega), e, if_neg (by omega)]; exact r1
  · rw [e, if_neg (by omega)] at h
    rw [up_q (by omega), e, if_neg (by omega)]; exact r2 h
  · rw [up_q (by omega)]; exact r3
theorem cc_tellError (h : Cn I V H) (hI : HI I hd n L) (hx : IR x) : Cc SX10_tellError [.ref 0, .int (i32 x)] e I J V H hd n L (an_tell V x) (teV V x) H := by
  intro Q hQ hX
  have hcn := h
  obtain ⟨hG, hGH, hB, hR, hH, hW, hdg⟩ := h
  refine x_in (Nat.le_of_ble_eq_true rfl) ?_
  dsimp only [bX10_tellError, bX10_tellError_0]
  ((try rw [show (-999 : Int32) = i32 (-999) from rfl]); (try rw [show (999 : Int32) = i32 (999) from rfl]); (try rw [show (1 : Int32) = i32 (1) from rfl]); (try simp only [i32_add, i32_sub, i32_mul, i32_neg]))
  unfold an_tell at hQ hX
  refine x_cV (sp_X10_needRange hx (by omega) (by omega) (fun h1 h2 => ?_) (fun c1 => hX 2 (by rw [if_neg (by omega)])))
  rw [if_pos ⟨h1, h2⟩] at hQ
  refine x_gR rfl rfl (x_gR rfl rfl (x_ob rfl (x_cV (sp_X3_keep st8 (by omega) hI hG hR hH fun I1 f1 I1h => ?_))))
  have cn1 := keep_cn hcn f1
  refine x_ob rfl (x_cI (cq_levelError cn1 _ fun I2 e2 f2 he2 => ?_))
  obtain ⟨_, _, _, R2, H2, W2, d2'⟩ := cn1.cf f2
  dsimp only [rsI]
  refine x_gR rfl rfl (x_pZs st8 (by omega) (x_gR rfl rfl (x_pIs st8 ?_)))
  refine x_rI (hQ _ rfl _ e2 ⟨fun q hq => by rw [up_qf (by omega), up_qf (by omega), f2.1 q (by omega)]; exact f1 q (by omega), fun y hy => by rw [up_q (by omega), up_q (by omega)]; exact d2' y hy⟩ he2 (Rst_te (q := 8) R2) (H2.keep fun d hd => by rw [up_qf (by omega), up_qf (by omega)]) (I1h.keepx fun p a b => by rw [up_qf (by omega), up_qf (by omega)]; exact f2.1 p (by omega)))
theorem Good_s4 (hG : Good V) : Good (stS V 4 0) := by
  obtain ⟨g0, g1, g2, g3, g4, g5, g6, g7, g8, g9, g10, g11⟩ := hG
  exact ⟨g0, g1, g2, g3, g4, g5, Or.inl rfl, fun h => absurd (show (0 : Int) = 1 from h) (by decide), trivial, g9, g10, g11⟩
theorem err_s4 : err (stS V 4 0) = ferr (stS V 4 0) (vS V 0) := by
  unfold err
  rw [if_neg (by show ¬ (0 : Int) = 1; decide)]
  rfl
theorem cc_findError (h : Cn I V H) (hI : HI I hd n L) : Cc SX10_findError [.ref 0] e I J V H hd n L (.inl (err (stS V 4 0))) (stS V 4 0) H := by
  intro Q hQ hX
  have hcn := h
  obtain ⟨hG, hGH, hB, hR, hH, hW, hdg⟩ := h
  refine x_in (Nat.le_of_ble_eq_true rfl) ?_
  dsimp only [bX10_findError, bX10_findError_0]
  ((try rw [show (0 : Int32) = i32 (0) from rfl]); (try simp only [i32_add, i32_sub, i32_mul, i32_neg]))
  refine x_gR rfl rfl (x_gR rfl rfl (x_ob rfl (x_cV (sp_X3_keep st8 (by omega) hI hG hR hH fun I1 f1 I1h => ?_))))
  obtain ⟨_, _, _, R1, H1, W1, d1'⟩ := keep_cn hcn f1
  refine x_gR rfl rfl (x_pZs st8 (by omega) ?_)
  have R2 : Rst (up I1 8 1 0) 8 (stS V 4 0) := Rst_s4 (q := 8) R1
  have H2 : Rht (up I1 8 1 0) 8 H := H1.keep fun d hd => up_qf (by omega)
  have cn2 : Cn (up I1 8 ((1 : Nat) : Int) 0) (stS V 4 0) H := ⟨Good_s4 hG, hGH, hB, R2, H2, W1.keep fun d hd => up_qf (by omega), fun y hy => by rw [up_q (by omega)]; exact d1' y hy⟩
  refine x_ob rfl (x_cI (cq_levelError cn2 _ fun I3 e3 f3 he3 => ?_))
  obtain ⟨_, _, _, R3, H3, W3, d3'⟩ := cn2.cf f3
  exact x_rI (hQ _ rfl I3 e3 ⟨fun q hq => by rw [f3.1 q (by omega), up_qf (by omega)]; exact f1 q (by omega), d3'⟩ he3 R3 H3 (I1h.keepx fun p a b => by rw [f3.1 p (by omega), up_qf (by omega)]))
theorem cc_set (h : Cn I V H) (hI : HI I hd n L) (he : e ∈ stLs) (hw : IR w) (hx : IR x) : Cc SX10_set [.ref 0, .int (i32 w), .int (i32 x)] e I J V H hd n L (an_sets V w x) (stS V w x) H := by
  intro Q hQ hX
  have hcn := h
  obtain ⟨hG, hGH, hB, hR, hH, hW, hdg⟩ := h
  refine x_in (Nat.le_of_ble_eq_true rfl) ?_
  dsimp only [bX10_set, bX10_set_0]
  ((try rw [show (0 : Int32) = i32 (0) from rfl]); (try rw [show (3 : Int32) = i32 (3) from rfl]); (try simp only [i32_add, i32_sub, i32_mul, i32_neg]))
  unfold an_sets at hQ hX
  refine x_cV (sp_X10_needRange hw (by omega) (by omega) (fun h1 h2 => ?_) (fun c1 => hX 2 (by rw [if_neg (by omega)])))
  refine x_cV (sp_X10_needSettingRange (w := w) (by omega) hx (fun h3 h4 => ?_) (fun c1 => hX 2 (by rw [if_neg (by omega)])))
  rw [if_pos (by omega)] at hQ
  refine x_gR rfl rfl (x_gR rfl rfl (x_ob rfl (x_cV (sp_X3_keep st8 (by omega) hI hG hR hH fun I1 f1 I1h => ?_))))
  obtain ⟨_, _, _, R1, H1, W1, d1'⟩ := keep_cn hcn f1
  refine x_gR rfl rfl (x_obs st8 (x_cI (sp_X6_settingOf he st8 R1 h1 (by omega) ?_)))
  refine x_gR rfl rfl (x_gRs st8 rfl (x_cV (sp_X10_put (n := 4) rfl h1 (by omega) (by omega) (by omega) ?_)))
  exact x_rI (hQ _ rfl _ e ⟨fun q hq => by rw [up_qf (by omega)]; exact f1 q (by omega), fun y hy => by rw [up_q (by omega)]; exact d1' y hy⟩ he (Rst_sw4 (q := 8) R1 ⟨h1, by omega⟩) (H1.keep fun d hd => up_qf (by omega)) (I1h.keepx fun p a b => up_qf (by omega)))
theorem cc_undo0 (hI : HI I hd 0 L) (hX : Q (.inr 3) (ME e I J)) : SX10_undo [.ref 0] (ME e I J) Q := by
  refine x_in (Nat.le_of_ble_eq_true rfl) ?_
  dsimp only [bX10_undo, bX10_undo_0]
  ((try rw [show (0 : Int32) = i32 (0) from rfl]); (try simp only [i32_add, i32_sub, i32_mul, i32_neg]))
  refine x_gR rfl rfl (x_gI rfl ?_)
  rw [show I 41 ((1 : Nat) : Int) = 0 from hI.1]
  exact x_brr (by trivial) (x_thr hX)
theorem cc_undo (h : Cn I V H) (hI : HI I hd (n + 1) L) (hQ : ∀ I' : IM, Cg I I' → Rst I' 8 (L 0).1 → Rht I' 8 (L 0).2 → HI I' ((hd + 9) % 10) n (fun j => L (j + 1)) → Q (.inl (some (.int (i32 n)))) (ME e I' J)) : SX10_undo [.ref 0] (ME e I J) Q := by
  obtain ⟨hG, hGH, hB, hR, hH, hW, hdg⟩ := h
  refine x_in (Nat.le_of_ble_eq_true rfl) ?_
  dsimp only [bX10_undo, bX10_undo_0]
  ((try rw [show (0 : Int32) = i32 (0) from rfl]); (try simp only [i32_add, i32_sub, i32_mul, i32_neg]))
  have n10 := hI.2.2.1
  refine x_gR rfl rfl (x_gI rfl ?_)
  rw [show I 41 ((1 : Nat) : Int) = ((n + 1 : Nat) : Int) from hI.1]
  refine x_eq (by omega) (by omega) (fun h => by omega) (fun _ => ?_)
  refine x_gR rfl rfl (x_gR rfl rfl (x_ob rfl (x_cV (sp_X3_takeBack st8 (by omega) hI fun I1 f1 I1h R1 H1 => ?_))))
  refine x_gR rfl rfl (x_gI rfl ?_)
  rw [show I1 41 ((1 : Nat) : Int) = ((n : Nat) : Int) from I1h.1]
  exact x_rI (hQ I1 ⟨fun q hq => f1 q (by omega) (by omega), fun y hy => by rw [f1 190 (by omega) (by omega)]; exact hdg y hy⟩ R1 H1 I1h)
theorem cc_save (h : Cn I V H) (hQ : ∀ I' : IM, (∀ q, (q < 30 ∧ q ≠ 0) ∨ 41 ≤ q → I' q = I q) → (∀ k, k ≠ 12 → I' 0 k = I 0 k) → I' 0 12 = 1 → Rst I' 30 V → Rht I' 30 H → Q (.inl (some (.int (i32 (vn V))))) (ME e I' J)) : SX10_saveState [.ref 0] (ME e I J) Q := by
  obtain ⟨hG, hGH, hB, hR, hH, hW, hdg⟩ := h
  refine x_in (Nat.le_of_ble_eq_true rfl) ?_
  dsimp only [bX10_saveState, bX10_saveState_0]
  ((try rw [show (1 : Int32) = i32 (1) from rfl]); (try simp only [i32_add, i32_sub, i32_mul, i32_neg]))
  refine x_gR rfl rfl (x_gR rfl rfl (x_obs st30 (x_cV (sp_X6_copyFrom st30 st8 (by omega) (hz8 hG hR) fun I1 f1 c1 => ?_))))
  have R1 : Rst I1 30 V := c1.Rst hR hG.2.1
  have H1 : Rht I1 30 H := c1.Rht hH
  refine x_pZ rfl (by omega) (x_gR rfl rfl (x_gIs st8 ?_))
  rw [show up I1 0 ((12 : Nat) : Int) 1 8 ((6 : Nat) : Int) = ((vn V : Nat) : Int) by rw [up_q (by omega), f1 8 (by omega)]; exact R_n hR]
  exact x_rI (hQ _ (fun q hq => by rw [up_qf (by omega)]; exact f1 q (by omega)) (fun k hk => by rw [up_k (show k ≠ ((12 : Nat) : Int) from hk), f1 0 (by omega)]) up_self (R1.keep fun d hd => up_qf (by omega)) (H1.keep fun d hd => up_qf (by omega)))
theorem cc_restore0 (h0 : I 0 12 = 0) (hX : Q (.inr 3) (ME e I J)) : SX10_restoreState [.ref 0] (ME e I J) Q := by
  refine x_in (Nat.le_of_ble_eq_true rfl) ?_
  dsimp only [bX10_restoreState, bX10_restoreState_0]
  ((try rw [show (0 : Int32) = i32 (0) from rfl]); (try simp only [i32_add, i32_sub, i32_mul, i32_neg]))
  refine x_gI rfl ?_
  rw [show I 0 ((12 : Nat) : Int) = 0 from h0]
  exact x_brr (by trivial) (x_thr hX)
theorem cc_restore {V' : Vw} {H' : Hw} (h0 : I 0 12 = 1) (hG : Good V') (hR : Rst I 30 V') (hH : Rht I 30 H') (hQ : ∀ I' : IM, (∀ q, q < 8 ∨ 18 < q → q ≠ 41 → I' q = I q) → (∀ k, k ≠ 1 → I' 41 k = I 41 k) → I' 41 1 = 0 → Rst I' 8 V' → Rht I' 8 H' → Q (.inl (some (.int (i32 (vn V'))))) (ME e I' J)) : SX10_restoreState [.ref 0] (ME e I J) Q := by
  refine x_in (Nat.le_of_ble_eq_true rfl) ?_
  dsimp only [bX10_restoreState, bX10_restoreState_0]
  ((try rw [show (0 : Int32) = i32 (0) from rfl]); (try simp only [i32_add, i32_sub, i32_mul, i32_neg]))
  refine x_gI rfl ?_
  rw [show I 0 ((12 : Nat) : Int) = 1 from h0]
  refine x_eq (by omega) (by omega) (fun h => by omega) (fun _ => ?_)
  refine x_gR rfl rfl (x_gR rfl rfl (x_obs st8 (x_cV (sp_X6_copyFrom st8 st30 (by omega) (by rw [R_told hR]; exact hG.2.2.2.2.2.2.1) fun I1 f1 c1 => ?_))))
  have R1 : Rst I1 8 V' := c1.Rst hR hG.2.1
  have H1 : Rht I1 8 H' := c1.Rht hH
  refine x_gR rfl rfl (x_pI rfl (x_gR rfl rfl (x_gIs st8 ?_)))
  rw [show up I1 41 ((1 : Nat) : Int) 0 8 ((6 : Nat) : Int) = ((vn V' : Nat) : Int) by rw [up_q (by omega)]; exact R_n R1]
  exact x_rI (hQ _ (fun q hq h41 => by rw [up_qf h41]; exact f1 q (by omega)) (fun k hk => by rw [up_k (show k ≠ ((1 : Nat) : Int) from hk), f1 41 (by omega)]) up_self (R1.keep fun d hd => up_qf (by omega)) (H1.keep fun d hd => up_qf (by omega)))
end Law90
