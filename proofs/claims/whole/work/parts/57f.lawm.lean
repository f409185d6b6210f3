/-! ===== the reference is changed: marks, settings, the saved state ===== -/
section Law96
variable {e : Nat} {I J : IM} {Q : Post} {V V' : Vw} {H H' : Hw} {a b c d t v s w l x : Int} {n : Nat} {L : Nat → Int → Int}
theorem bnH_hb {m h k : Int} : hb (bnH H m h) k = if k = m then 1 else hb H k := rfl
theorem bnH_hh {m h k : Int} : hh (bnH H m h) k = if k = m then 1 else hh H k := rfl
theorem bnH_hv {m h k : Int} : hv (bnH H m h) k = if k = m then h else hv H k := rfl
theorem Rhr_bn {m : Nat} (hH : Rhr I 201 0 m H) : Rhr (up (up (up I 201 (8 + 5 * a + 2) 1) 201 (8 + 5 * a + 3) 1) 201 (8 + 5 * a + 4) x) 201 0 m (bnH H a x) := by
  intro k h0 h1
  have t := hH k h0 h1
  rw [bnH_hb, bnH_hh, bnH_hv]
  by_cases e : k = a
  · subst e
    rw [if_pos rfl, if_pos rfl, if_pos rfl]
    refine ⟨?_, ?_, fun _ => ?_⟩
    · rw [up_k (by omega), up_k (by omega), show (0 : Int) + 8 + 5 * k + 2 = 8 + 5 * k + 2 by omega, up_self]
    · rw [up_k (by omega), show (0 : Int) + 8 + 5 * k + 3 = 8 + 5 * k + 3 by omega, up_self]
    · rw [show (0 : Int) + 8 + 5 * k + 4 = 8 + 5 * k + 4 by omega, up_self]
  · rw [if_neg e, if_neg e, if_neg e]
    refine ⟨?_, ?_, ?_⟩
    · rw [up_k (by omega), up_k (by omega), up_k (by omega)]; exact t.1
    · rw [up_k (by omega), up_k (by omega), up_k (by omega)]; exact t.2.1
    · rw [up_k (by omega), up_k (by omega), up_k (by omega)]; exact t.2.2
theorem rc_fix (h : Rn I V H) (hL : HR I n L) (ha : IR a) (hx : IR x) : Rc SX11_fix [.ref 200, .int (i32 a), .int (i32 x)] e I J n L (an_fix V H a x) V (bnH H a x) c12 := by
  intro Q hQ hX
  obtain ⟨hG, hGH, hB, hW, hH⟩ := h
  have m := hG.1
  refine x_in (Nat.le_of_ble_eq_true rfl) ?_
  dsimp only [bX11_fix, bX11_fix_0]
  ((try rw [show (0 : Int32) = i32 (0) from rfl]); (try rw [show (1 : Int32) = i32 (1) from rfl]); (try rw [show (2 : Int32) = i32 (2) from rfl]); (try rw [show (3 : Int32) = i32 (3) from rfl]); (try rw [show (4 : Int32) = i32 (4) from rfl]); (try simp only [i32_add, i32_sub, i32_mul, i32_neg]))
  unfold an_fix at hQ hX
  refine x_ob rfl (x_cI (sp_X11_isMark hG hW ha (x_ob rfl (x_cI (sp_X11_is (by split <;> simp) ?_)))))
  dsimp only
  by_cases h1 : 0 ≤ a ∧ a ≤ (vm V : Int) - 1
  · rw [if_pos h1]
    rw [if_pos (by omega)] at hQ hX
    refine x_eq (by omega) (by omega) (fun h => by omega) (fun _ => ?_)
    rw [i32_long hx.1 hx.2, show (-99999 : Int64) = i64 (-99999) from rfl, show (99999 : Int64) = i64 99999 from rfl]
    unfold IR at hx
    refine x_cI (sp_X11_isIn (by omega) (by omega) (by omega) (x_ob rfl (x_cI (sp_X11_may (by split <;> simp) ?_))))
    dsimp only
    by_cases h2 : -99999 ≤ x ∧ x ≤ 99999
    · rw [if_pos h2]
      rw [if_pos h2] at hQ
      refine x_eq (by omega) (by omega) (fun h => by omega) (fun _ => ?_)
      have r0 : Rfr I (up (up I 200 0 (1 - 1)) 200 0 (if (1 : Int) = 0 then 2 else 0)) := Rfr.told.trans Rfr.told
      have t0 : up (up I 200 0 (1 - 1)) 200 0 (if (1 : Int) = 0 then 2 else 0) 200 0 = 0 := up_self
      generalize up (up I 200 0 (1 - 1)) 200 0 (if (1 : Int) = 0 then 2 else 0) = I0 at *
      refine x_ob rfl (x_cV (sp_X11_starts fun I3 f3 s3 => ?_))
      have W3 : Rrw I3 201 0 V := (r0.rw' hW).keep (f3 201 (by omega))
      have H3 : Rhr I3 201 0 (vm V) H := (r0.rh hH).keep (f3 201 (by omega))
      have gb := (hGH a h1.1 (by omega)).1
      refine x_ob rfl (x_cI (sp_X11_of h1.1 (by omega) (by omega) (by omega) ?_))
      dsimp only
      rw [show I3 201 (8 + 5 * a + 2) = hb H a from W_bn H3 h1.1 (by omega)]
      refine x_ob rfl (x_cV (sp_X11_lays h1.1 (by omega) (by omega) (by omega) ?_))
      refine x_ob rfl (x_cV (sp_X11_lays h1.1 (by omega) (by omega) (by omega) ?_))
      refine x_ob rfl (x_cV (sp_X11_lays h1.1 (by omega) (by omega) (by omega) ?_))
      refine x_ob rfl (x_cI (rc_done (I := I) (V' := V) (H' := bnH H a x) hL (fun q hq => by rw [up_qf (by omega), up_qf (by omega), up_qf (by omega), f3 q (by omega)]; exact r0.1 q (by omega)) (fun k hk => by rw [up_q (by omega), up_q (by omega), up_q (by omega), f3 200 (by omega)]; exact r0.2 k hk) (by rw [up_q (by omega), up_q (by omega), up_q (by omega), f3 200 (by omega)]; exact t0) (fun k y z => by rw [up_q (by omega), up_q (by omega), up_q (by omega), s3 k y z, r0.1 201 (by omega)]) (Rrw_lay (Rrw_lay (Rrw_lay W3 h1.1 (by omega) (by omega)) h1.1 (by omega) (by omega)) h1.1 (by omega) (by omega)) (Rhr_bn H3) (fun I' row g1 g2 g3 g4 g5 g6 => ?_)))
      have hq := hQ _ rfl I' row g1 g2 g3 g4 g5 g6
      refine x_eq (by omega) (by omega) (fun h => ?_) (fun h => ?_)
      · rw [h] at hq; exact x_rZ (v := 1) (by omega) hq
      · rw [show hb H a = 0 by omega] at hq; exact x_rZ (v := 0) (by omega) hq
    · rw [if_neg h2]
      rw [if_neg h2] at hX
      exact x_brr (by trivial) (x_rZ (v := 0) (by omega) (hX 2 rfl _ 0 (by omega) (Rfr.told.trans Rfr.told) (by rw [up_self, if_pos rfl]; rfl)))
  · rw [if_neg h1]
    rw [if_neg (by omega)] at hX
    exact x_brr (by trivial) (x_rZ (v := 0) (by omega) (hX 1 rfl _ 0 (by omega) Rfr.told up_self))
theorem Rhr_fr {m : Nat} (hH : Rhr I 201 0 m H) : Rhr (up I 201 (8 + 5 * a + 2) 0) 201 0 m (frH H a) := by
  intro k h0 h1
  have t := hH k h0 h1
  have e1 : hb (frH H a) k = if k = a then 0 else hb H k := rfl
  refine ⟨?_, by rw [up_k (by omega)]; exact t.2.1, by rw [up_k (by omega)]; exact t.2.2⟩
  rw [e1]
  by_cases e : k = a
  · subst e
    rw [if_pos rfl, show (0 : Int) + 8 + 5 * k + 2 = 8 + 5 * k + 2 by omega, up_self]
  · rw [if_neg e, up_k (by omega)]; exact t.1
theorem rc_free (h : Rn I V H) (hL : HR I n L) (ha : IR a) : Rc SX11_free [.ref 200, .int (i32 a)] e I J n L (an_free V H a) V (frH H a) c13 := by
  intro Q hQ hX
  obtain ⟨hG, hGH, hB, hW, hH⟩ := h
  have m := hG.1
  refine x_in (Nat.le_of_ble_eq_true rfl) ?_
  dsimp only [bX11_free, bX11_free_0]
  ((try rw [show (0 : Int32) = i32 (0) from rfl]); (try rw [show (2 : Int32) = i32 (2) from rfl]); (try simp only [i32_add, i32_sub, i32_mul, i32_neg]))
  unfold an_free at hQ hX
  refine x_ob rfl (x_cI (sp_X11_isMark hG hW ha (x_ob rfl (x_cI (sp_X11_is (by split <;> simp) ?_)))))
  dsimp only
  by_cases h1 : 0 ≤ a ∧ a ≤ (vm V : Int) - 1
  · rw [if_pos h1]
    rw [if_pos (by omega)] at hQ hX
    refine x_eq (by omega) (by omega) (fun h => by omega) (fun _ => ?_)
    have r0 : Rfr I (up I 200 0 (1 - 1)) := Rfr.told
    generalize up I 200 0 (1 - 1) = I0 at *
    have gb := (hGH a h1.1 (by omega)).1
    refine x_ob rfl (x_cI (sp_X11_isBench m hGH (r0.rh hH) (by omega) (x_ob rfl (x_cI (sp_X11_may gb ?_)))))
    dsimp only
    by_cases h2 : hb H a = 1
    · rw [h2]
      rw [if_pos h2] at hQ
      refine x_eq (by omega) (by omega) (fun h => by omega) (fun _ => ?_)
      have r1 : Rfr I (up I0 200 0 (if (1 : Int) = 0 then 2 else 0)) := r0.trans Rfr.told
      have t1 : up I0 200 0 (if (1 : Int) = 0 then 2 else 0) 200 0 = 0 := up_self
      generalize up I0 200 0 (if (1 : Int) = 0 then 2 else 0) = I1 at *
      refine x_ob rfl (x_cV (sp_X11_starts fun I3 f3 s3 => ?_))
      have W3 : Rrw I3 201 0 V := (r1.rw' hW).keep (f3 201 (by omega))
      have H3 : Rhr I3 201 0 (vm V) H := (r1.rh hH).keep (f3 201 (by omega))
      refine x_ob rfl (x_cV (sp_X11_lays h1.1 (by omega) (by omega) (by omega) ?_))
      have W4 : Rrw (up I3 201 (8 + 5 * a + 2) 0) 201 0 V := Rrw_lay W3 h1.1 (by omega) (by omega)
      have H4 : Rhr (up I3 201 (8 + 5 * a + 2) 0) 201 0 (vm V) (frH H a) := Rhr_fr H3
      refine x_ob rfl (x_cI (sp_X11_benches hG W4 (GoodH_fr hGH) H4 ?_))
      exact x_ob rfl (x_cI (rc_done (I := I) (V' := V) (H' := frH H a) hL (fun q hq => by rw [up_qf (by omega), f3 q (by omega)]; exact r1.1 q (by omega)) (fun k hk => by rw [up_q (by omega), f3 200 (by omega)]; exact r1.2 k hk) (by rw [up_q (by omega), f3 200 (by omega)]; exact t1) (fun k y z => by rw [up_q (by omega), s3 k y z, r1.1 201 (by omega)]) W4 H4 (fun I' row g1 g2 g3 g4 g5 g6 => x_rI (hQ _ rfl I' row g1 g2 g3 g4 g5 g6))))
    · rw [show hb H a = 0 by omega]
      rw [if_neg h2] at hX
      exact x_brr (by trivial) (x_rI (hX 3 rfl _ 0 (by omega) (r0.trans Rfr.told) (by rw [up_self, if_pos rfl]; rfl)))
  · rw [if_neg h1]
    rw [if_neg (by omega)] at hX
    exact x_brr (by trivial) (x_rI (hX 1 rfl _ 0 (by omega) Rfr.told up_self))
theorem rc_level (h : Rn I V H) (hL : HR I n L) : Rc SX11_level [.ref 200] e I J n L (.inl (ctH (hh (lvl V H)) (vm V) : Nat)) V (lvl V H) c1 := by
  intro Q hQ hX
  obtain ⟨hG, hGH, hB, hW, hH⟩ := h
  refine x_in (Nat.le_of_ble_eq_true rfl) ?_
  dsimp only [bX11_level, bX11_level_0]
  ((try rw [show (0 : Int32) = i32 (0) from rfl]); (try simp only [i32_add, i32_sub, i32_mul, i32_neg]))
  refine x_pI rfl ?_
  rw [show ((0 : Nat) : Int) = 0 from rfl]
  have r0 : Rfr I (up I 200 0 0) := Rfr.told
  have t0 : up I 200 0 0 200 0 = 0 := up_self
  generalize up I 200 0 0 = I0 at *
  refine x_ob rfl (x_cV (sp_X11_starts fun I3 f3 s3 => ?_))
  have W3 : Rrw I3 201 0 V := (r0.rw' hW).keep (f3 201 (by omega))
  have H3 : Rhr I3 201 0 (vm V) H := (r0.rh hH).keep (f3 201 (by omega))
  refine x_ob rfl (x_cV (sp_X11_levels hG W3 hGH H3 (hB.mono (by omega)) fun I4 f4 g4 R4 W4 H4 => ?_))
  have lo := lvl_ok hG hGH hB
  refine x_ob rfl (x_cI (sp_X11_withHeights hG W4 lo.1 H4 ?_))
  have fr : ∀ q, q < 201 ∨ (203 ≤ q ∧ q < 207) ∨ 214 < q → q ≠ 200 → I4 q = I0 q := fun q a b => by rw [f4 q (by omega) b (by omega), f3 q (by omega)]
  have g5 : ∀ k, k ≠ 10 → I4 200 k = I0 200 k := fun k hk => by rw [g4 k hk, f3 200 (by omega)]
  exact x_ob rfl (x_cI (rc_done (I := I) (V' := V) (H' := lvl V H) hL (fun q hq => by rw [fr q (by omega) (by omega)]; exact r0.1 q (by omega)) (fun k hk => by rw [g5 k (by omega)]; exact r0.2 k hk) (by rw [g5 0 (by omega)]; exact t0) (fun k y z => by rw [f4 202 (by omega) (by omega) (by omega), s3 k y z, r0.1 201 (by omega)]) W4 H4 (fun I' row g1 g2 g3 g4 g5 g6 => x_rI (hQ _ rfl I' row g1 g2 g3 g4 g5 g6))))
theorem rc_relax (h : Rn I V H) (hL : HR I n L) (ha : IR a) : Rc SX11_relax [.ref 200, .int (i32 a)] e I J n L (an_relax V H a) V (rbs V a.toNat H).2 c1 := by
  intro Q hQ hX
  obtain ⟨hG, hGH, hB, hW, hH⟩ := h
  refine x_in (Nat.le_of_ble_eq_true rfl) ?_
  dsimp only [bX11_relax, bX11_relax_0]
  ((try rw [show (0 : Int32) = i32 (0) from rfl]); (try simp only [i32_add, i32_sub, i32_mul, i32_neg]))
  unfold an_relax at hQ hX
  rw [i32_long ha.1 ha.2, show (1 : Int64) = i64 1 from rfl, show (50 : Int64) = i64 50 from rfl]
  unfold IR at ha
  refine x_cI (sp_X11_isIn (by omega) (by omega) (by omega) (x_ob rfl (x_cI (sp_X11_is (by split <;> simp) ?_))))
  dsimp only
  by_cases h1 : 1 ≤ a ∧ a ≤ 50
  · rw [if_pos h1]
    rw [if_pos h1] at hQ
    obtain ⟨z, rfl⟩ : ∃ z : Nat, a = z := ⟨a.toNat, by omega⟩
    refine x_eq (by omega) (by omega) (fun h => by omega) (fun _ => ?_)
    have r0 : Rfr I (up I 200 0 (1 - 1)) := Rfr.told
    have t0 : up I 200 0 (1 - 1) 200 0 = 0 := up_self
    generalize up I 200 0 (1 - 1) = I0 at *
    refine x_ob rfl (x_cV (sp_X11_starts fun I3 f3 s3 => ?_))
    have W3 : Rrw I3 201 0 V := (r0.rw' hW).keep (f3 201 (by omega))
    have H3 : Rhr I3 201 0 (vm V) H := (r0.rh hH).keep (f3 201 (by omega))
    refine x_ob rfl (x_cI (sp_X11_rounds hG W3 hGH H3 (hB.mono (by omega)) (n := z) (by omega) fun I4 f4 g4 R4 W4 H4 => ?_))
    have fr : ∀ q, q < 201 ∨ (203 ≤ q ∧ q < 207) ∨ 214 < q → q ≠ 200 → I4 q = I0 q := fun q a b => by rw [f4 q (by omega) b (by omega), f3 q (by omega)]
    have g5 : ∀ k, k ≠ 10 → I4 200 k = I0 200 k := fun k hk => by rw [g4 k hk, f3 200 (by omega)]
    exact x_ob rfl (x_cI (rc_done (I := I) (V' := V) (H' := (rbs V z H).2) hL (fun q hq => by rw [fr q (by omega) (by omega)]; exact r0.1 q (by omega)) (fun k hk => by rw [g5 k (by omega)]; exact r0.2 k hk) (by rw [g5 0 (by omega)]; exact t0) (fun k y z => by rw [f4 202 (by omega) (by omega) (by omega), s3 k y z, r0.1 201 (by omega)]) W4 H4 (fun I' row g1 g2 g3 g4 g5 g6 => x_rI (hQ _ rfl I' row g1 g2 g3 g4 g5 g6))))
  · rw [if_neg h1]
    rw [if_neg h1] at hX
    exact x_brr (by trivial) (x_rI (hX 2 rfl _ 0 (by omega) Rfr.told up_self))
theorem Rrw_te (hW : Rrw I 201 0 V) : Rrw (up (up I 201 6 1) 201 7 x) 201 0 (teV V x) := by
  obtain ⟨w0, w1, w2, w3, w4, w5, _, _, _, w9⟩ := hW
  have e : ∀ i, vS (teV V x) i = if i = 4 then 1 else if i = 5 then x else vS V i := fun _ => rfl
  refine ⟨?_, ?_, fun i a b => ?_, fun h => ?_, fun j a b => ?_, fun j a b => ?_, trivial, trivial, trivial, fun i a b f hf => ?_⟩
  · rw [up_k (by omega), up_k (by omega)]; exact w0
  · rw [up_k (by omega), up_k (by omega)]; exact w1
  · rw [up_k (by omega), up_at, e]
    by_cases q : i = 4
    · rw [if_pos q, if_pos (by omega)]
    · rw [if_neg q, if_neg (by omega), if_neg (by omega)]; exact w2 i a b
  · rw [show (0 : Int) + 7 = 7 by omega, up_self, e, if_neg (by omega), if_pos rfl]
  · rw [up_k (by omega), up_k (by omega)]; exact w4 j a b
  · rw [up_k (by omega), up_k (by omega)]; exact w5 j a b
  · rw [up_k (by omega), up_k (by omega)]; exact w9 i a b f hf
theorem Rhr_lo {m : Nat} {z : Int} (hz : z < 8) (hH : Rhr I 201 0 m H) : Rhr (up I 201 z x) 201 0 m H := by
  intro k h0 h1
  have t := hH k h0 h1
  rw [up_k (by omega), up_k (by omega), up_k (by omega)]
  exact t
theorem rc_tellError (h : Rn I V H) (hL : HR I n L) (hx : IR x) : Rc SX11_tellError [.ref 200, .int (i32 x)] e I J n L (an_tell V x) (teV V x) H c1 := by
  intro Q hQ hX
  obtain ⟨hG, hGH, hB, hW, hH⟩ := h
  refine x_in (Nat.le_of_ble_eq_true rfl) ?_
  dsimp only [bX11_tellError, bX11_tellError_0]
  ((try rw [show (0 : Int32) = i32 (0) from rfl]); (try rw [show (6 : Int32) = i32 (6) from rfl]); (try rw [show (7 : Int32) = i32 (7) from rfl]); (try rw [show (1 : Int32) = i32 (1) from rfl]); (try simp only [i32_add, i32_sub, i32_mul, i32_neg]))
  unfold an_tell at hQ hX
  rw [i32_long hx.1 hx.2, show (-999 : Int64) = i64 (-999) from rfl, show (999 : Int64) = i64 999 from rfl]
  unfold IR at hx
  refine x_cI (sp_X11_isIn (by omega) (by omega) (by omega) (x_ob rfl (x_cI (sp_X11_is (by split <;> simp) ?_))))
  dsimp only
  by_cases h1 : -999 ≤ x ∧ x ≤ 999
  · rw [if_pos h1]
    rw [if_pos h1] at hQ
    refine x_eq (by omega) (by omega) (fun h => by omega) (fun _ => ?_)
    have r0 : Rfr I (up I 200 0 (1 - 1)) := Rfr.told
    have t0 : up I 200 0 (1 - 1) 200 0 = 0 := up_self
    generalize up I 200 0 (1 - 1) = I0 at *
    refine x_ob rfl (x_cV (sp_X11_starts fun I3 f3 s3 => ?_))
    have W3 : Rrw I3 201 0 V := (r0.rw' hW).keep (f3 201 (by omega))
    have H3 : Rhr I3 201 0 (vm V) H := (r0.rh hH).keep (f3 201 (by omega))
    refine x_ob rfl (x_cI (sp_X11_errorNow hG W3 fun I4 f4 => ?_))
    have W4 : Rrw I4 201 0 V := W3.keep (f4 201 (by omega))
    have H4 : Rhr I4 201 0 (vm V) H := H3.keep (f4 201 (by omega))
    refine x_gR rfl rfl (x_sA rfl (by omega) (by omega) (by omega) (x_gR rfl rfl (x_sA rfl (by omega) (by omega) (by omega) ?_)))
    exact x_ob rfl (x_cI (rc_done (I := I) (V' := teV V x) (H' := H) hL (fun q hq => by rw [up_qf (by omega), up_qf (by omega), f4 q (by omega), f3 q (by omega)]; exact r0.1 q (by omega)) (fun k hk => by rw [up_q (by omega), up_q (by omega), f4 200 (by omega), f3 200 (by omega)]; exact r0.2 k hk) (by rw [up_q (by omega), up_q (by omega), f4 200 (by omega), f3 200 (by omega)]; exact t0) (fun k y z => by rw [up_q (by omega), up_q (by omega), f4 202 (by omega), s3 k y z, r0.1 201 (by omega)]) (Rrw_te W4) (Rhr_lo (by omega) (Rhr_lo (by omega) H4)) (fun I' row g1 g2 g3 g4 g5 g6 => x_rI (hQ _ rfl I' row g1 g2 g3 g4 g5 g6))))
  · rw [if_neg h1]
    rw [if_neg h1] at hX
    exact x_brr (by trivial) (x_rI (hX 2 rfl _ 0 (by omega) Rfr.told up_self))
theorem rc_findError (h : Rn I V H) (hL : HR I n L) : Rc SX11_findError [.ref 200] e I J n L (.inl (err (stS V 4 0))) (stS V 4 0) H c1 := by
  intro Q hQ hX
  obtain ⟨hG, hGH, hB, hW, hH⟩ := h
  refine x_in (Nat.le_of_ble_eq_true rfl) ?_
  dsimp only [bX11_findError, bX11_findError_0]
  ((try rw [show (0 : Int32) = i32 (0) from rfl]); (try rw [show (6 : Int32) = i32 (6) from rfl]); (try simp only [i32_add, i32_sub, i32_mul, i32_neg]))
  refine x_pI rfl ?_
  rw [show ((0 : Nat) : Int) = 0 from rfl]
  have r0 : Rfr I (up I 200 0 0) := Rfr.told
  have t0 : up I 200 0 0 200 0 = 0 := up_self
  generalize up I 200 0 0 = I0 at *
  refine x_ob rfl (x_cV (sp_X11_starts fun I3 f3 s3 => ?_))
  have W3 : Rrw I3 201 0 V := (r0.rw' hW).keep (f3 201 (by omega))
  have H3 : Rhr I3 201 0 (vm V) H := (r0.rh hH).keep (f3 201 (by omega))
  refine x_gR rfl rfl (x_sA rfl (by omega) (by omega) (by omega) ?_)
  have W4 : Rrw (up I3 201 6 0) 201 0 (stS V 4 0) := Rrw_sS (w := 4) W3 (by omega) (fun _ q => by omega)
  have H4 : Rhr (up I3 201 6 0) 201 0 (vm V) H := Rhr_lo (by omega) H3
  refine x_ob rfl (x_cI (sp_X11_foundError (Good_s4 hG) W4 fun I5 f5 => ?_))
  rw [show ferr (stS V 4 0) (vS (stS V 4 0) 0) = err (stS V 4 0) from err_s4.symm]
  exact x_ob rfl (x_cI (rc_done (I := I) (V' := stS V 4 0) (H' := H) hL (fun q hq => by rw [f5 q (by omega), up_qf (by omega), f3 q (by omega)]; exact r0.1 q (by omega)) (fun k hk => by rw [f5 200 (by omega), up_q (by omega), f3 200 (by omega)]; exact r0.2 k hk) (by rw [f5 200 (by omega), up_q (by omega), f3 200 (by omega)]; exact t0) (fun k y z => by rw [f5 202 (by omega), up_q (by omega), s3 k y z, r0.1 201 (by omega)]) (W4.keep (f5 201 (by omega))) (H4.keep (f5 201 (by omega))) (fun I' row g1 g2 g3 g4 g5 g6 => x_rI (hQ _ rfl I' row g1 g2 g3 g4 g5 g6))))
theorem sp_X11_isSetting (hw : IR w) (hx : IR x) (hQ : Q (.inl (some (.int (i32 (if 0 ≤ w ∧ w < 4 ∧ seL w ≤ x ∧ x ≤ seU w then 1 else 0))))) (ME e I J)) : SX11_isSetting [.int (i32 w), .int (i32 x)] (ME e I J) Q := by
  refine x_in (Nat.le_of_ble_eq_true rfl) ?_
  dsimp only [bX11_isSetting, bX11_isSetting_0]
  ((try rw [show (0 : Int32) = i32 (0) from rfl]); (try simp only [i32_add, i32_sub, i32_mul, i32_neg]))
  refine x_sw hw (by omega) (fun k hk hak => ?_) (fun h => ?_)
  · obtain rfl : w = (k : Int) := by omega
    rw [i32_long hx.1 hx.2, show (0 : Int64) = i64 0 from rfl, show (1 : Int64) = i64 1 from rfl, show (9999 : Int64) = i64 9999 from rfl, show (-99 : Int64) = i64 (-99) from rfl, show (99 : Int64) = i64 99 from rfl, show (999 : Int64) = i64 999 from rfl]
    unfold IR at hx
    rcases (show k = 0 ∨ k = 1 ∨ k = 2 ∨ k = 3 by omega) with rfl | rfl | rfl | rfl
    · refine x_cI (sp_X11_isIn (by omega) (by omega) (by omega) (x_rZ (by split <;> simp) ?_))
      have e1 : seL ((0 : Nat) : Int) = 1 := rfl
      have e2 : seU ((0 : Nat) : Int) = 9999 := rfl
      rw [e1, e2] at hQ
      by_cases c : (1 : Int) ≤ x ∧ x ≤ 9999
      · rw [if_pos c]; rw [if_pos (by omega)] at hQ; exact hQ
      · rw [if_neg c]; rw [if_neg (by omega)] at hQ; exact hQ
    · refine x_cI (sp_X11_isIn (by omega) (by omega) (by omega) (x_rZ (by split <;> simp) ?_))
      have e1 : seL ((1 : Nat) : Int) = 0 := rfl
      have e2 : seU ((1 : Nat) : Int) = 99 := rfl
      rw [e1, e2] at hQ
      by_cases c : (0 : Int) ≤ x ∧ x ≤ 99
      · rw [if_pos c]; rw [if_pos (by omega)] at hQ; exact hQ
      · rw [if_neg c]; rw [if_neg (by omega)] at hQ; exact hQ
    · refine x_cI (sp_X11_isIn (by omega) (by omega) (by omega) (x_rZ (by split <;> simp) ?_))
      have e1 : seL ((2 : Nat) : Int) = -99 := rfl
      have e2 : seU ((2 : Nat) : Int) = 99 := rfl
      rw [e1, e2] at hQ
      by_cases c : (-99 : Int) ≤ x ∧ x ≤ 99
      · rw [if_pos c]; rw [if_pos (by omega)] at hQ; exact hQ
      · rw [if_neg c]; rw [if_neg (by omega)] at hQ; exact hQ
    · refine x_cI (sp_X11_isIn (by omega) (by omega) (by omega) (x_rZ (by split <;> simp) ?_))
      have e1 : seL ((3 : Nat) : Int) = 0 := rfl
      have e2 : seU ((3 : Nat) : Int) = 999 := rfl
      rw [e1, e2] at hQ
      by_cases c : (0 : Int) ≤ x ∧ x ≤ 999
      · rw [if_pos c]; rw [if_pos (by omega)] at hQ; exact hQ
      · rw [if_neg c]; rw [if_neg (by omega)] at hQ; exact hQ
  · rw [if_neg (by omega)] at hQ
    exact x_rZ (v := 0) (by omega) hQ
theorem rc_set (h : Rn I V H) (hL : HR I n L) (hw : IR w) (hx : IR x) : Rc SX11_set [.ref 200, .int (i32 w), .int (i32 x)] e I J n L (an_sets V w x) (stS V w x) H c1 := by
  intro Q hQ hX
  obtain ⟨hG, hGH, hB, hW, hH⟩ := h
  refine x_in (Nat.le_of_ble_eq_true rfl) ?_
  dsimp only [bX11_set, bX11_set_0]
  ((try rw [show (0 : Int32) = i32 (0) from rfl]); (try rw [show (2 : Int32) = i32 (2) from rfl]); (try simp only [i32_add, i32_sub, i32_mul, i32_neg]))
  unfold an_sets at hQ hX
  refine x_cI (sp_X11_isSetting hw hx (x_ob rfl (x_cI (sp_X11_is (by split <;> simp) ?_))))
  dsimp only
  by_cases h1 : 0 ≤ w ∧ w < 4 ∧ seL w ≤ x ∧ x ≤ seU w
  · rw [if_pos h1]
    rw [if_pos h1] at hQ
    refine x_eq (by omega) (by omega) (fun h => by omega) (fun _ => ?_)
    have r0 : Rfr I (up I 200 0 (1 - 1)) := Rfr.told
    have t0 : up I 200 0 (1 - 1) 200 0 = 0 := up_self
    generalize up I 200 0 (1 - 1) = I0 at *
    refine x_ob rfl (x_cV (sp_X11_starts fun I3 f3 s3 => ?_))
    have W3 : Rrw I3 201 0 V := (r0.rw' hW).keep (f3 201 (by omega))
    have H3 : Rhr I3 201 0 (vm V) H := (r0.rh hH).keep (f3 201 (by omega))
    refine x_gR rfl rfl (x_aI rfl (by omega) (by omega) (by omega) (x_gR rfl rfl (x_sA rfl (by omega) (by omega) (by omega) ?_)))
    rw [W_S W3 h1.1 (by omega)]
    have W4 : Rrw (up I3 201 (2 + w) x) 201 0 (stS V w x) := Rrw_sS W3 (by omega) (fun _ q => by omega)
    have H4 : Rhr (up I3 201 (2 + w) x) 201 0 (vm V) H := Rhr_lo (by omega) H3
    exact x_ob rfl (x_cI (rc_done (I := I) (V' := stS V w x) (H' := H) hL (fun q hq => by rw [up_qf (by omega), f3 q (by omega)]; exact r0.1 q (by omega)) (fun k hk => by rw [up_q (by omega), f3 200 (by omega)]; exact r0.2 k hk) (by rw [up_q (by omega), f3 200 (by omega)]; exact t0) (fun k y z => by rw [up_q (by omega), s3 k y z, r0.1 201 (by omega)]) W4 H4 (fun I' row g1 g2 g3 g4 g5 g6 => x_rI (hQ _ rfl I' row g1 g2 g3 g4 g5 g6))))
  · rw [if_neg h1]
    rw [if_neg h1] at hX
    exact x_brr (by trivial) (x_rI (hX 2 rfl _ 0 (by omega) Rfr.told up_self))
theorem rc_undo0 (hL : HR I 0 L) (hQ : ∀ I' : IM, Rfr I I' → I' 200 0 = 1 → Q (.inl (some (.int (i32 0)))) (ME e I' J)) : SX11_undo [.ref 200] (ME e I J) Q := by
  refine x_in (Nat.le_of_ble_eq_true rfl) ?_
  dsimp only [bX11_undo, bX11_undo_0]
  ((try rw [show (0 : Int32) = i32 (0) from rfl]); (try rw [show (1 : Int32) = i32 (1) from rfl]); (try simp only [i32_add, i32_sub, i32_mul, i32_neg]))
  refine x_gI rfl ?_
  rw [show I 200 ((7 : Nat) : Int) = 0 from hL.1]
  refine x_le (by omega) (by omega) (fun _ => ?_) (fun h => by omega)
  exact x_ob rfl (x_cI (sp_X11_is (v := 0) (by omega) (x_brr (by trivial) (x_rI (hQ _ Rfr.told up_self)))))
theorem rc_save (h : Rn I V H) (hQ : ∀ I' : IM, (∀ q, q ≠ 200 → q ≠ 205 → I' q = I q) → (∀ k, k ≠ 0 → k ≠ 8 → I' 200 k = I 200 k) → I' 200 8 = 1 → (∀ k : Int, 0 ≤ k → k < 308 → I' 205 k = I 201 k) → Q (.inl (some (.int (i32 (vn V))))) (ME e I' J)) : SX11_saveState [.ref 200] (ME e I J) Q := by
  obtain ⟨hG, hGH, hB, hW, hH⟩ := h
  refine x_in (Nat.le_of_ble_eq_true rfl) ?_
  dsimp only [bX11_saveState, bX11_saveState_0]
  ((try rw [show (0 : Int32) = i32 (0) from rfl]); (try rw [show (1 : Int32) = i32 (1) from rfl]); (try simp only [i32_add, i32_sub, i32_mul, i32_neg]))
  refine x_pI rfl ?_
  rw [show ((0 : Nat) : Int) = 0 from rfl]
  refine x_gR rfl rfl (x_gR rfl rfl (x_cV (sp_X11_copies rfl rfl (by omega) fun I1 f1 s1 => x_pZ rfl (by omega) (x_gR rfl rfl (x_aI rfl (by omega) (by omega) (by omega) ?_)))))
  rw [show up I1 200 ((8 : Nat) : Int) 1 201 1 = ((vn V : Nat) : Int) by rw [up_q (by omega), f1 201 (by omega), up_q (by omega)]; exact W_n hW]
  exact x_rI (hQ _ (fun q a b => by rw [up_qf a, f1 q b, up_qf a]) (fun k a b => by rw [up_k (show k ≠ ((8 : Nat) : Int) from b), f1 200 (by omega), up_k a]) up_self (fun k a b => by rw [up_q (by omega), s1 k a b, up_q (by omega)]))
theorem rc_restore0 (h0 : I 200 8 = 0) (hQ : ∀ I' : IM, Rfr I I' → I' 200 0 = 1 → Q (.inl (some (.int (i32 0)))) (ME e I' J)) : SX11_restoreState [.ref 200] (ME e I J) Q := by
  refine x_in (Nat.le_of_ble_eq_true rfl) ?_
  dsimp only [bX11_restoreState, bX11_restoreState_0]
  ((try rw [show (0 : Int32) = i32 (0) from rfl]); (try simp only [i32_add, i32_sub, i32_mul, i32_neg]))
  refine x_gI rfl ?_
  rw [show I 200 ((8 : Nat) : Int) = 0 from h0]
  exact x_ob rfl (x_cI (sp_X11_is (v := 0) (by omega) (x_brr (by trivial) (x_rI (hQ _ Rfr.told up_self)))))
theorem rc_restore (h0 : I 200 8 = 1) (hn : I 205 1 = vn V') (hQ : ∀ I' : IM, (∀ q, q ≠ 200 → q ≠ 201 → I' q = I q) → (∀ k, k ≠ 0 → k ≠ 7 → I' 200 k = I 200 k) → I' 200 0 = 0 → I' 200 7 = 0 → (∀ k : Int, 0 ≤ k → k < 308 → I' 201 k = I 205 k) → Q (.inl (some (.int (i32 (vn V'))))) (ME e I' J)) : SX11_restoreState [.ref 200] (ME e I J) Q := by
  refine x_in (Nat.le_of_ble_eq_true rfl) ?_
  dsimp only [bX11_restoreState, bX11_restoreState_0]
  ((try rw [show (0 : Int32) = i32 (0) from rfl]); (try rw [show (1 : Int32) = i32 (1) from rfl]); (try simp only [i32_add, i32_sub, i32_mul, i32_neg]))
  refine x_gI rfl ?_
  rw [show I 200 ((8 : Nat) : Int) = 1 from h0]
  refine x_ob rfl (x_cI (sp_X11_is (v := 1) (by omega) (x_eq (by omega) (by omega) (fun h => by omega) (fun _ => ?_))))
  refine x_gR rfl rfl (x_gR rfl rfl (x_cV (sp_X11_copies rfl rfl (by omega) fun I1 f1 s1 => x_pI rfl (x_gR rfl rfl (x_aI rfl (by omega) (by omega) (by omega) ?_)))))
  rw [show up I1 200 ((7 : Nat) : Int) 0 201 1 = ((vn V' : Nat) : Int) by rw [up_q (by omega), s1 1 (by omega) (by omega), up_q (by omega)]; exact hn]
  exact x_rI (hQ _ (fun q a b => by rw [up_qf a, f1 q b, up_qf a]) (fun k a b => by rw [up_k (show k ≠ ((7 : Nat) : Int) from b), f1 200 (by omega), up_k a]) (by rw [up_k (show (0 : Int) ≠ ((7 : Nat) : Int) by decide), f1 200 (by omega), up_self]; rfl) up_self (fun k a b => by rw [up_q (by omega), s1 k a b, up_q (by omega)]))
end Law96
