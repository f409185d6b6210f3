/-! ===== the reference: heights laid ===== -/
/-- marks that have no height yet -/
def noH (V : Vw) (H : Hw) : Nat := ct (fun k => decide (k < vm V) && decide (hh H k = 0)) 12
theorem lvo_stop {V : Vw} {S : Hw × (Int → Int)} {i : Nat} (h : (lvs V (lvo V S i).1 (lvo V S i).2 144).1 = -1) : ∀ j : Nat, i ≤ j → lvo V S j = lvo V S i := by
  intro j hj
  obtain ⟨d, rfl⟩ : ∃ d, j = i + d := ⟨j - i, by omega⟩
  induction d with
  | zero => rfl
  | succ d ih =>
    have h2 := ih (by omega)
    show lvn V (lvo V S (i + d)) = _
    rw [h2]
    unfold lvn
    rw [if_pos h]
theorem lvn_less {V : Vw} {H : Hw} {c : Int → Int} {C : Int} (hG : Good V) (hC : CB H c C) (h : (lvs V H c 144).1 ≠ -1) : noH V (lvn V (H, c)).1 + 1 ≤ noH V H := by
  have m := hG.1
  have o := (lvs_ok hG hC 144 (by omega)).resolve_left (fun q => h (by rw [q]))
  unfold noH lvn
  dsimp only
  rw [if_neg h]
  refine (ct_sub (c := (lvs V H c 144).1) ?_ ?_ (fun i _ _ hi => ?_) 12 (Nat.le_refl _)).2 o.1 (by omega)
  · simp only [Bool.and_eq_true, decide_eq_true_eq]; omega
  · simp only [putH_hh, Bool.and_eq_false_iff, decide_eq_false_iff_not, if_true]; right; omega
  · simp only [putH_hh, Bool.and_eq_true, decide_eq_true_eq] at hi ⊢
    obtain ⟨h1, h2⟩ := hi
    have h2 : (if i = (lvs V H c 144).1 then (1 : Int) else hh H i) = 0 := of_decide_eq_true h2
    by_cases q : i = (lvs V H c 144).1
    · rw [if_pos q] at h2; exact absurd h2 (by decide)
    · rw [if_neg q] at h2; exact ⟨h1, h2⟩
theorem lvo_end {V : Vw} {H : Hw} {M : Int} (hG : Good V) (hGH : GoodH (vm V) H) (hB : HB (vm V) H M) : (lvs V (lvo V (lv0 H, fun _ => 0) 12).1 (lvo V (lv0 H, fun _ => 0) 12).2 144).1 = -1 := by
  refine Classical.byContradiction fun h => ?_
  have ok := lvo_ok hG hGH hB
  have key : ∀ i : Nat, i ≤ 12 → noH V (lvo V (lv0 H, fun _ => 0) i).1 + i ≤ 12 := by
    intro i
    induction i with
    | zero => intro _; exact ct_le _ _
    | succ i ih =>
      intro hi
      have h1 := ih (by omega)
      have h2 : (lvs V (lvo V (lv0 H, fun _ => 0) i).1 (lvo V (lv0 H, fun _ => 0) i).2 144).1 ≠ -1 := fun q => h (by rw [lvo_stop q 12 (by omega)]; exact q)
      have h3 := lvn_less hG (ok i).2.2 h2
      show noH V (lvn V (lvo V (lv0 H, fun _ => 0) i)).1 + (i + 1) ≤ 12
      have h4 : lvn V (lvo V (lv0 H, fun _ => 0) i) = lvn V ((lvo V (lv0 H, fun _ => 0) i).1, (lvo V (lv0 H, fun _ => 0) i).2) := rfl
      rw [h4]
      omega
  have h1 := key 12 (by omega)
  have h2 := lvn_less hG (ok 12).2.2 h
  omega
section Lev80
variable {e : Nat} {I J : IM} {Q : Post} {V : Vw} {H : Hw} {b : Int} {c : Int → Int}
theorem Rhr_ext {m : Nat} {H' : Hw} (hH : Rhr I 201 0 m H) (h : ∀ k : Int, 0 ≤ k → k < m → hb H' k = hb H k ∧ hh H' k = hh H k ∧ hv H' k = hv H k) : Rhr I 201 0 m H' := by
  intro k h0 h1
  have t := hH k h0 h1
  have u := h k h0 h1
  rw [u.1, u.2.1, u.2.2]
  exact t
def lvp (H : Hw) (i : Nat) : Hw := (H.1, fun k => if k < i then hb H k else hh H k, H.2.2)
theorem sp_X11_levels (hG : Good V) (hW : Rrw I 201 0 V) (hGH : GoodH (vm V) H) (hH : Rhr I 201 0 (vm V) H) (hB : HB (vm V) H 1000000000)
    (hQ : ∀ I' : IM, (∀ q, q < 207 ∨ 214 < q → q ≠ 200 → q ≠ 201 → I' q = I q) → (∀ k, k ≠ 10 → I' 200 k = I 200 k) → Rk I' V → Rrw I' 201 0 V → Rhr I' 201 0 (vm V) (lvl V H) → Q (.inl none) (ME e I' J)) : SX11_levels [.ref 200] (ME e I J) Q := by
  refine x_in (Nat.le_of_ble_eq_true rfl) ?_
  dsimp only [bX11_levels, bX11_levels_0]
  have m := hG.1
  ((try rw [show (0 : Int32) = i32 (0) from rfl]); (try simp only [i32_add, i32_sub, i32_mul, i32_neg]))
  refine x_ob rfl (x_cV (sp_X11_reckons hG hW fun I1 f1 f1b R1 => ?_))
  dsimp only
  have W1 : Rrw I1 201 0 V := hW.keep (f1 201 (by omega) (by omega))
  have H1 : Rhr I1 201 0 (vm V) H := hH.keep (f1 201 (by omega) (by omega))
  refine x_for (vm V) (fun i av μ => ∃ I2 : IM, av = [.ref 200, .int (i32 i)] ∧ μ = ME e I2 J ∧ (∀ q, q ≠ 201 → q ≠ 214 → I2 q = I1 q) ∧ Rrw I2 201 0 V ∧ Rhr I2 201 0 (vm V) (lvp H i) ∧ ∀ k : Int, 0 ≤ k → k < i → I2 214 k = 0) ?_ ?_ (Nat.zero_le _) ⟨I1, rfl, rfl, fun _ _ _ => rfl, W1, Rhr_ext H1 (fun k a b => ⟨rfl, by show (if k < ((0 : Nat) : Int) then _ else _) = _; rw [if_neg (by omega)], rfl⟩), fun k a b => by omega⟩
  · rintro i av μ hi ⟨I2, rfl, rfl, f2, W2, H2, c2⟩ hJ
    dsimp only [bX11_levels, bX11_levels_1]
    ((try rw [show (1 : Int32) = i32 (1) from rfl]); (try rw [show (2 : Int32) = i32 (2) from rfl]); (try rw [show (3 : Int32) = i32 (3) from rfl]); (try rw [show (0 : Int32) = i32 (0) from rfl]); (try simp only [i32_add, i32_sub, i32_mul, i32_neg]))
    have tb := (H2 i (by omega) (by omega))
    have gb := hGH i (by omega) (by omega)
    refine x_ob rfl (x_cI (sp_X11_marks W2 (x_le (by omega) (by omega) (fun h => by omega) (fun _ => ?_))))
    refine x_ob rfl (x_cI (sp_X11_of (by omega) (by omega) (by omega) (by omega) ?_))
    dsimp only
    rw [show I2 201 (8 + 5 * (i : Int) + 2) = hb H i by rw [show (8 : Int) + 5 * (i : Int) + 2 = 0 + 8 + 5 * (i : Int) + 2 by omega]; exact tb.1]
    refine x_ob rfl (x_cV (sp_X11_lays (by omega) (by omega) (by omega) (by omega) ?_))
    refine x_gR rfl rfl (x_sA rfl (by omega) (by omega) (by omega) ?_)
    refine hJ _ _ ⟨_, by simp only [Int.cast_ofNat_Int, Int.natCast_add, Int.toNat_natCast, i32_add, i32_sub, i32_mul, i32_neg, i32_lit, i64_add, i64_sub, i64_mul, i64_neg, i64_lit, i64_int], rfl, fun q a b => by rw [up_qf b, up_qf a]; exact f2 q a b, (Rrw_lay W2 (by omega) (by omega) (by omega)).up (by omega), ?_, fun k a b => ?_⟩
    · intro k a b
      have t := H2 k a b
      rw [up_qf (show (201 : Nat) ≠ 214 by omega)]
      refine ⟨by rw [up_k (by omega)]; exact t.1, ?_, ?_⟩
      · show _ = (if k < ((i + 1 : Nat) : Int) then hb H k else hh H k)
        by_cases e : k = i
        · subst e; rw [if_pos (by omega), show (0 : Int) + 8 + 5 * (i : Int) + 3 = 8 + 5 * i + 3 by omega, up_self]
        · rw [up_k (by omega)]
          have t2 : I2 201 (0 + 8 + 5 * k + 3) = (if k < (i : Int) then hb H k else hh H k) := t.2.1
          rw [t2]
          by_cases e2 : k < i
          · rw [if_pos e2, if_pos (by omega)]
          · rw [if_neg e2, if_neg (by omega)]
      · intro h1
        rw [up_k (by omega)]
        have h1 : (if k < ((i + 1 : Nat) : Int) then hb H k else hh H k) = 1 := h1
        have g2 := hGH k a (by omega)
        refine t.2.2 ?_
        show (if k < (i : Int) then hb H k else hh H k) = 1
        split at h1 <;> split <;> (first | assumption | omega)
    · by_cases e : k = i
      · subst e; exact up_self
      · rw [up_k e, up_q (by omega)]; exact c2 k a (by omega)
  · rintro av μ ⟨I2, rfl, rfl, f2, W2, H2, c2⟩
    dsimp only [bX11_levels, bX11_levels_1]
    have e2 : Ee I2 V := R1.1.keep (by rw [f2 200 (by omega) (by omega)]) (f2 208 (by omega) (by omega)) (f2 209 (by omega) (by omega)) (f2 210 (by omega) (by omega))
    have ok := lvo_ok hG hGH hB
    have stop := lvo_end hG hGH hB
    have H2' : Rhr I2 201 0 (vm V) (lv0 H) := Rhr_ext H2 fun k a b => ⟨rfl, by show hb H k = (if k < ((vm V : Nat) : Int) then hb H k else hh H k); rw [if_pos b], rfl⟩
    have key : ∀ (d n : Nat) (I3 : IM), n + d = 12 → (∀ q, q ≠ 201 → q ≠ 214 → I3 q = I1 q) → Rrw I3 201 0 V → Rhr I3 201 0 (vm V) (lvo V (lv0 H, fun _ => 0) n).1 → (∀ k : Int, 0 ≤ k → k < vm V → I3 214 k = (lvo V (lv0 H, fun _ => 0) n).2 k) →
        fx bX11_levels 2 [.ref 200, .int (i32 (nxk V (lvo V (lv0 H, fun _ => 0) n).1 (lvo V (lv0 H, fun _ => 0) n).2 144))] (ME e I3 J) Q := by
      intro d
      induction d with
      | zero =>
        intro n I3 hn f3 W3 H3 c3
        have hn : n = 12 := by omega
        subst hn
        refine fx_in ?_
        dsimp only [bX11_levels, bX11_levels_2]
        ((try rw [show (-1 : Int32) = i32 (-1) from rfl]); (try simp only [i32_add, i32_sub, i32_mul, i32_neg]))
        unfold nxk
        rw [if_pos stop]
        have e3 : Rk I3 V := ⟨R1.1.keep (by rw [f3 200 (by omega) (by omega)]) (f3 208 (by omega) (by omega)) (f3 209 (by omega) (by omega)) (f3 210 (by omega) (by omega)), by rw [f3 211 (by omega) (by omega)]; exact R1.2.1, by rw [f3 212 (by omega) (by omega)]; exact R1.2.2⟩
        exact x_eq (by omega) (by omega) (fun _ => x_rV (hQ I3 (fun q a b c => by rw [f3 q c (by omega), f1 q (by omega) b]) (fun k h => by rw [f3 200 (by omega) (by omega), f1b k h]) e3 W3 H3)) (fun h => absurd rfl h)
      | succ d ih =>
        intro n I3 hn f3 W3 H3 c3
        have e3 : Rk I3 V := ⟨R1.1.keep (by rw [f3 200 (by omega) (by omega)]) (f3 208 (by omega) (by omega)) (f3 209 (by omega) (by omega)) (f3 210 (by omega) (by omega)), by rw [f3 211 (by omega) (by omega)]; exact R1.2.1, by rw [f3 212 (by omega) (by omega)]; exact R1.2.2⟩
        refine fx_in ?_
        dsimp only [bX11_levels, bX11_levels_2]
        ((try rw [show (-1 : Int32) = i32 (-1) from rfl]); (try rw [show (0 : Int32) = i32 (0) from rfl]); (try rw [show (1 : Int32) = i32 (1) from rfl]); (try rw [show (3 : Int32) = i32 (3) from rfl]); (try rw [show (4 : Int32) = i32 (4) from rfl]); (try rw [show (12 : Int32) = i32 (12) from rfl]); (try simp only [i32_add, i32_sub, i32_mul, i32_neg]))
        have okn := ok n
        have o := lvs_ok hG okn.2.2 144 (by omega)
        have oc := lvs_cost V (lvo V (lv0 H, fun _ => 0) n).1 (lvo V (lv0 H, fun _ => 0) n).2 144
        have nxt : lvo V (lv0 H, fun _ => 0) (n + 1) = lvn V (lvo V (lv0 H, fun _ => 0) n) := rfl
        have stp := lvo_stop (V := V) (S := (lv0 H, fun _ => 0)) (i := n)
        have ihn := ih (n + 1)
        rw [nxt] at ihn
        have okn1 := ok (n + 1)
        rw [nxt] at okn1
        unfold lvl at hQ
        generalize lvo V (lv0 H, fun _ => 0) n = S at *
        unfold nxk
        by_cases hw : (lvs V S.1 S.2 144).1 = -1
        · rw [if_pos hw]
          refine x_eq (by omega) (by omega) (fun _ => x_rV (hQ I3 (fun q a b c => by rw [f3 q c (by omega), f1 q (by omega) b]) (fun k h => by rw [f3 200 (by omega) (by omega), f1b k h]) e3 W3 ?_)) (fun h => absurd rfl h)
          rw [stp hw 12 (by omega)]
          exact H3
        · rw [if_neg hw]
          have o2 := o.resolve_left (fun q => hw (by rw [q]))
          have oc2 := oc.resolve_left hw
          have hln : lvn V S = (putH S.1 (lvs V S.1 S.2 144).1 (hv S.1 (lvs V S.1 S.2 144).2.1 + rfk V (pq (lvs V S.1 S.2 144).2.1 (lvs V S.1 S.2 144).1) (lvs V S.1 S.2 144).2.1), fun k => if k = (lvs V S.1 S.2 144).1 then (lvs V S.1 S.2 144).2.2 else S.2 k) := by
            unfold lvn; rw [if_neg hw]
          rw [hln] at ihn okn1
          rw [oc2] at ihn okn1
          generalize lvs V S.1 S.2 144 = Lw at *
          have q1 : (12 * Lw.1 + Lw.2.1) / 12 = Lw.1 := by omega
          have q2 : 12 * Lw.1 + Lw.2.1 - Lw.1 * 12 = Lw.2.1 := by omega
          refine x_eq (by omega) (by omega) (fun h => by omega) (fun _ => ?_)
          rw [i32_div (by omega) (by omega) (by omega) (by omega), Int.tdiv_eq_ediv_of_nonneg (by omega), q1]
          refine x_nz (by omega) (by omega) (by omega) (x_lI (x_nz (by omega) (by omega) (by omega) ?_))
          rw [i32_mul, i32_sub, q2]
          refine x_lI ?_
          refine x_ob rfl (x_cV (sp_X11_lays (by omega) (by omega) (by omega) (by omega) ?_))
          refine x_ob rfl (x_cI (sp_X11_of (by omega) (by omega) (by omega) (by omega) ?_))
          dsimp only
          have eu : Ee (up I3 201 (8 + 5 * Lw.1 + 3) 1) V := e3.1.keep (by rw [up_q (by omega)]) (up_qf (by omega)) (up_qf (by omega)) (up_qf (by omega))
          have hne : Lw.2.1 ≠ Lw.1 := fun q => o2.2.2.2.2.1 q.symm
          rw [show up I3 201 (8 + 5 * Lw.1 + 3) 1 201 (8 + 5 * Lw.2.1 + 4) = hv S.1 Lw.2.1 by rw [up_k (by omega)]; exact W_ht H3 o2.2.2.1 o2.2.2.2.1 o2.2.2.2.2.2.2.1]
          refine x_ob rfl (x_cI (sp_X11_riseFrom eu (by omega) (by omega) hne o2.2.2.2.2.2.2.2.1 ?_))
          dsimp only
          rw [i32_add]
          refine x_ob rfl (x_cV (sp_X11_lays (by omega) (by omega) (by omega) (by omega) ?_))
          have W4 : Rrw (up (up I3 201 (8 + 5 * Lw.1 + 3) 1) 201 (8 + 5 * Lw.1 + 4) (hv S.1 Lw.2.1 + rf V Lw.2.1 Lw.1)) 201 0 V := Rrw_lay (Rrw_lay W3 (by omega) (by omega) (by omega)) (by omega) (by omega) (by omega)
          have H4 := Rhr_put (b := Lw.1) (h := hv S.1 Lw.2.1 + rf V Lw.2.1 Lw.1) H3
          refine x_gR rfl rfl (x_gR rfl rfl (x_aI rfl (by omega) (by omega) (by omega) ?_))
          rw [show up (up I3 201 (8 + 5 * Lw.1 + 3) 1) 201 (8 + 5 * Lw.1 + 4) (hv S.1 Lw.2.1 + rf V Lw.2.1 Lw.1) 214 Lw.2.1 = S.2 Lw.2.1 by rw [up_q (by omega), up_q (by omega)]; exact c3 _ o2.2.2.1 o2.2.2.2.1]
          refine x_ob rfl (x_cI (sp_X11_distance hG W4 (by omega) (by omega) ?_))
          dsimp only
          rw [i32_add]
          refine x_sA rfl (by omega) (by omega) (by omega) ?_
          rw [rf_rfk V ⟨by omega, by omega⟩ ⟨by omega, by omega⟩ hne] at W4 H4 ⊢
          generalize hI4 : up (up I3 201 (8 + 5 * Lw.1 + 3) 1) 201 (8 + 5 * Lw.1 + 4) (hv S.1 Lw.2.1 + rfk V (pq Lw.2.1 Lw.1) Lw.2.1) = I4 at *
          have f4 : ∀ q, q ≠ 201 → I4 q = I3 q := fun q h => by rw [← hI4, up_qf h, up_qf h]
          have W5 : Rrw (up I4 214 Lw.1 (S.2 Lw.2.1 + dst V Lw.2.1 Lw.1)) 201 0 V := W4.up (by omega)
          have H5 : Rhr (up I4 214 Lw.1 (S.2 Lw.2.1 + dst V Lw.2.1 Lw.1)) 201 0 (vm V) (putH S.1 Lw.1 (hv S.1 Lw.2.1 + rfk V (pq Lw.2.1 Lw.1) Lw.2.1)) := H4.keep (up_qf (by omega))
          have f5 : ∀ q, q ≠ 201 → q ≠ 214 → up I4 214 Lw.1 (S.2 Lw.2.1 + dst V Lw.2.1 Lw.1) q = I1 q := fun q a b => by rw [up_qf b, f4 q a, f3 q a b]
          have e5 : Ee (up I4 214 Lw.1 (S.2 Lw.2.1 + dst V Lw.2.1 Lw.1)) V := R1.1.keep (by rw [f5 200 (by omega) (by omega)]) (f5 208 (by omega) (by omega)) (f5 209 (by omega) (by omega)) (f5 210 (by omega) (by omega))
          have c5 : ∀ k : Int, 0 ≤ k → k < vm V → up I4 214 Lw.1 (S.2 Lw.2.1 + dst V Lw.2.1 Lw.1) 214 k = if k = Lw.1 then S.2 Lw.2.1 + dst V Lw.2.1 Lw.1 else S.2 k := fun k a b => by
            rw [up_at]
            split
            · rfl
            · rw [f4 214 (by omega)]; exact c3 k a b
          refine x_ob rfl (x_cI (sp_X11_nextHeight hG W5 e5 okn1.1 H5 c5 okn1.2.2 (by omega) ?_))
          exact ihn _ (by omega) f5 W5 H5 c5
    refine x_ob rfl (x_cI (sp_X11_marks W2 (x_le (by omega) (by omega) (fun _ => ?_) (fun h => by omega))))
    refine x_ob rfl (x_cI (sp_X11_nextHeight hG W2 e2 (ok 0).1 H2' (c := fun _ => 0) c2 (ok 0).2.2 (by omega) ?_))
    exact key 12 0 I2 (by omega) f2 W2 H2' c2
end Lev80
