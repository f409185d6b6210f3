/-! ===== the reference is asked: what would be ===== -/
theorem Rrw_st5 {I : IM} {V : Vw} {s v : Int} (hm : vm V ≤ 12) (hW : Rrw I 201 0 V) (h0 : 0 ≤ s) : Rrw (up I 201 (68 + 6 * s + 5) v) 201 0 (stG V 5 s v) := by
  obtain ⟨w0, w1, w2, w3, w4, w5, _, _, _, w9⟩ := hW
  have em : vm (stG V 5 s v) = vm V := rfl
  refine ⟨?_, ?_, fun i a b => ?_, fun h => ?_, fun j a b => ?_, fun j a b => ?_, trivial, trivial, trivial, fun i a b f hf => ?_⟩
  · rw [up_k (by omega)]; exact w0
  · rw [up_k (by omega)]; exact w1
  · rw [up_k (by omega)]; exact w2 i a b
  · rw [up_k (by omega)]; exact w3 h
  · rw [up_k (by omega)]; exact w4 j a b
  · rw [up_k (by omega)]; exact w5 j a b
  · have e : vG (stG V 5 s v) f i = if f = 5 ∧ i = s then v else vG V f i := rfl
    rw [e, up_at]
    by_cases h : f = 5 ∧ i = s
    · rw [if_pos h, if_pos (by obtain ⟨h1, h2⟩ := h; subst h1; subst h2; omega)]
    · rw [if_neg h, if_neg (fun q => h (by omega))]
      exact w9 i a b f hf
theorem Rrw_ext {I I' : IM} {r : Nat} {V : Vw} (hm : vm V ≤ 12) (hn : vn V ≤ 40) (h : ∀ k : Int, 0 ≤ k → k < 308 → I' r k = I r k) (hW : Rrw I r 0 V) : Rrw I' r 0 V := by
  obtain ⟨w0, w1, w2, w3, w4, w5, _, _, _, w9⟩ := hW
  refine ⟨?_, ?_, fun i a b => ?_, fun q => ?_, fun j a b => ?_, fun j a b => ?_, trivial, trivial, trivial, fun i a b f hf => ?_⟩
  · rw [h _ (by omega) (by omega)]; exact w0
  · rw [h _ (by omega) (by omega)]; exact w1
  · rw [h _ (by omega) (by omega)]; exact w2 i a b
  · rw [h _ (by omega) (by omega)]; exact w3 q
  · rw [h _ (by omega) (by omega)]; exact w4 j a b
  · rw [h _ (by omega) (by omega)]; exact w5 j a b
  · rw [h _ (by omega) (by omega)]; exact w9 i a b f hf
theorem Rhr_ext308 {I I' : IM} {r : Nat} {m : Nat} {H : Hw} (hm : m ≤ 12) (h : ∀ k : Int, 0 ≤ k → k < 308 → I' r k = I r k) (hH : Rhr I r 0 m H) : Rhr I' r 0 m H := by
  intro k h0 h1
  have t := hH k h0 h1
  rw [h _ (by omega) (by omega), h _ (by omega) (by omega), h _ (by omega) (by omega)]
  exact t
/-- a question to the reference that lays its row and lays it back -/
def RfW (I I' : IM) : Prop := (∀ q, q < 200 ∨ q = 205 ∨ q = 206 ∨ q = 215 ∨ q = 216 → I' q = I q) ∧ (∀ k : Int, 0 ≤ k → k < 308 → I' 201 k = I 201 k) ∧ ∀ k, k = 7 ∨ k = 8 ∨ k = 20 ∨ k = 27 ∨ k = 28 ∨ k = 31 → I' 200 k = I 200 k
theorem Rfr.w {I I' : IM} (h : Rfr I I') : RfW I I' := ⟨fun q a => h.1 q (by omega), fun k _ _ => by rw [h.1 201 (by omega)], h.2⟩
/-- what stays between calls -/
def Kw (I I' : IM) : Prop := (∀ q, q < 19 ∨ (30 ≤ q ∧ q < 153) ∨ q = 170 ∨ q = 205 ∨ q = 206 ∨ q = 215 ∨ q = 216 → I' q = I q) ∧ (∀ k : Int, 0 ≤ k → k < 308 → I' 201 k = I 201 k) ∧ (∀ k, k = 7 ∨ k = 8 ∨ k = 20 ∨ k = 27 ∨ k = 28 ∨ k = 31 → I' 200 k = I 200 k) ∧ dg0 I'
theorem Cf.kw {I I1 I' : IM} (h : Cf I I1) (h2 : RfW I1 I') : Kw I I' := by
  refine ⟨fun q a => ?_, fun k a b => ?_, fun k a => ?_, fun x hx => ?_⟩
  · rw [h2.1 q (by omega), h.1 q (by omega)]
  · rw [h2.2.1 k a b, h.1 201 (by omega)]
  · rw [h2.2.2 k a, h.1 200 (by omega)]
  · rw [h2.1 190 (by omega)]; exact h.2 x hx
def RqW (S : ST) (as : List Value) (e : Nat) (I J : IM) (r : An) (f : Nat → Int) : Prop := ∀ Q : Post, (∀ (I' : IM) (v : Int), RfW I I' → okr r f (I' 200 0) v → Q (.inl (some (.int (i32 v)))) (ME e I' J)) → S as (ME e I J) Q
def RqWJ (S : ST) (as : List Value) (e : Nat) (I J : IM) (r : An) (f : Nat → Int) : Prop := ∀ Q : Post, (∀ (I' : IM) (v : Int), RfW I I' → okr r f (I' 200 0) v → Q (.inl (some (.long (i64 v)))) (ME e I' J)) → S as (ME e I J) Q
theorem ferr_s0 (V : Vw) (x L : Int) : ferr (stS V 0 x) L = ferr V L := by
  have e1 : ∀ s, bnd (stS V 0 x) s = bnd V s := fun _ => rfl
  have e2 : ∀ s, wrm (stS V 0 x) s = wrm V s := fun _ => rfl
  have e3 : ∀ s, pur (stS V 0 x) s = pur V s := fun s => by unfold pur; rw [e1, e2]; rfl
  have e4 : ∀ k s, ws0 (stS V 0 x) k s = ws0 V k s := fun k s => by unfold ws0; rw [e3]; rfl
  have e5 : ∀ k s, as0 (stS V 0 x) k s = as0 V k s := fun k s => by unfold as0; rw [e3]; rfl
  have e6 : ∀ k, wsu (stS V 0 x) k = wsu V k := fun k => by unfold wsu; exact sm_congr _ fun i _ _ => e4 k i
  have e7 : ∀ k, asu (stS V 0 x) k = asu V k := fun k => by unfold asu; exact sm_congr _ fun i _ _ => e5 k i
  have e8 : ∀ k, cnt (stS V 0 x) k = cnt V k := fun k => rfl
  have e9 : ∀ k, wcn (stS V 0 x) k = wcn V k := fun k => rfl
  have ea : ∀ k, dk (stS V 0 x) k = dk V k := fun k => rfl
  have eb : ∀ k, est (stS V 0 x) L k = est V L k := fun k => by unfold est; rw [e6, e7, e8, e9, ea]
  have ec : ∀ n, estF (stS V 0 x) L n = estF V L n := by
    intro n
    induction n with
    | zero => rfl
    | succ n ih => rw [estF_succ, estF_succ, ih, eb]
  unfold ferr
  rw [ec]
theorem Good_s0 {V : Vw} {x : Int} (hG : Good V) (hx : 1 ≤ x ∧ x ≤ 9999) : Good (stS V 0 x) := by
  obtain ⟨g0, g1, g2, g3, g4, g5, g6, g7, g8, g9, g10, g11⟩ := hG
  exact ⟨g0, g1, hx, g3, g4, g5, g6, g7, trivial, g9, g10, g11⟩
theorem Rrw_sS {I : IM} {V : Vw} {w x : Int} (hW : Rrw I 201 0 V) (hw : 0 ≤ w ∧ w < 5) (h4 : w = 4 → x = 1 → I 201 7 = vS V 5) : Rrw (up I 201 (2 + w) x) 201 0 (stS V w x) := by
  obtain ⟨w0, w1, w2, w3, w4, w5, _, _, _, w9⟩ := hW
  have e : ∀ i, vS (stS V w x) i = if i = w then x else vS V i := fun _ => rfl
  refine ⟨?_, ?_, fun i a b => ?_, fun h => ?_, fun j a b => ?_, fun j a b => ?_, trivial, trivial, trivial, fun i a b f hf => ?_⟩
  · rw [up_k (by omega)]; exact w0
  · rw [up_k (by omega)]; exact w1
  · rw [up_at, e]
    by_cases q : i = w
    · rw [if_pos q, if_pos (by omega)]
    · rw [if_neg q, if_neg (by omega)]; exact w2 i a b
  · rw [e] at h
    rw [up_k (by omega), e, if_neg (by omega)]
    by_cases q : (4 : Int) = w
    · rw [if_pos q] at h
      have := h4 q.symm h
      rw [show (0 : Int) + 7 = 7 by omega]; exact this
    · rw [if_neg q] at h; exact w3 h
  · rw [up_k (by omega)]; exact w4 j a b
  · rw [up_k (by omega)]; exact w5 j a b
  · rw [up_k (by omega)]; exact w9 i a b f hf
section Law94
variable {e : Nat} {I J : IM} {Q : Post} {V : Vw} {H : Hw} {a b v s w l x : Int}
theorem sp_X11_turns (hG : Good V) (hW : Rrw I 201 0 V) (h0 : 0 ≤ s) (h1 : s < vn V)
    (hQ : ∀ I' : IM, (∀ q, q < 207 ∨ 212 < q → q ≠ 200 → I' q = up I 201 (68 + 6 * s + 5) (1 - vG V 5 s) q) → (∀ k, k ≠ 10 → I' 200 k = I 200 k) → Rk I' (stG V 5 s (1 - vG V 5 s)) → Rrw I' 201 0 (stG V 5 s (1 - vG V 5 s)) → Q (.inl none) (ME e I' J)) : SX11_turns [.ref 200, .int (i32 s)] (ME e I J) Q := by
  refine x_in (Nat.le_of_ble_eq_true rfl) ?_
  dsimp only [bX11_turns, bX11_turns_0]
  ((try rw [show (5 : Int32) = i32 (5) from rfl]); (try rw [show (1 : Int32) = i32 (1) from rfl]); (try simp only [i32_add, i32_sub, i32_mul, i32_neg]))
  have n := hG.2.1
  have m := hG.1
  have g := (gd_s hG h0 h1).2.2.2.2.2.2
  refine x_ob rfl (x_cI (sp_X11_ofSight h0 (by omega) (by omega) (by omega) ?_))
  dsimp only
  rw [show I 201 (68 + 6 * s + 5) = vG V 5 s from W_s hW 5 h0 h1 (by omega), i32_sub]
  refine x_ob rfl (x_cV (sp_X11_laysSight h0 (by omega) (by omega) (by omega) ?_))
  have G' : Good (stG V 5 s (1 - vG V 5 s)) := Good_st5 hG (by omega)
  have W' : Rrw (up I 201 (68 + 6 * s + 5) (1 - vG V 5 s)) 201 0 (stG V 5 s (1 - vG V 5 s)) := Rrw_st5 m hW h0
  refine x_ob rfl (x_cV (sp_X11_reckons G' W' fun I1 f1 f1b R1 => ?_))
  exact x_rV (hQ I1 f1 (fun k hk => by rw [f1b k hk, up_q (by omega)]) R1 (W'.keep (f1 201 (by omega) (by omega))))
/-- turned and turned back -/
theorem turn2 {I1 I2 : IM} (hG : Good V) (hW : Rrw I 201 0 V) (h0 : 0 ≤ s) (h1 : s < vn V) {I3 : IM}
    (f1 : ∀ q, q < 207 ∨ 212 < q → q ≠ 200 → I1 q = up I 201 (68 + 6 * s + 5) (1 - vG V 5 s) q) (g1 : ∀ k, k ≠ 10 → I1 200 k = I 200 k) (f2 : Wf I1 I2)
    (f3 : ∀ q, q < 207 ∨ 212 < q → q ≠ 200 → I3 q = up I2 201 (68 + 6 * s + 5) (1 - (1 - vG V 5 s)) q) (g3 : ∀ k, k ≠ 10 → I3 200 k = I2 200 k) : Rf0 I I3 := by
  have w := W_s hW 5 h0 h1 (by omega)
  refine ⟨⟨fun q hq => ?_, fun k hk => ?_⟩, ?_⟩
  · by_cases e : q = 201
    · subst e
      rw [f3 201 (by omega) (by omega)]
      funext k
      rw [up_at, f2.1 201 (by omega) (by omega), f1 201 (by omega) (by omega), up_at]
      split
      · rename_i q
        rw [q, show (1 : Int) - (1 - vG V 5 s) = vG V 5 s by omega]
        exact w.symm
      · rfl
    · rw [f3 q (by omega) (by omega), up_qf e, f2.1 q (by omega) (by omega), f1 q (by omega) (by omega), up_qf e]
  · rw [g3 k (by omega), f2.2 k (by omega), g1 k (by omega)]
  · rw [g3 0 (by omega), f2.2 0 (by omega), g1 0 (by omega)]
theorem rq_closedIf (h : Rn I V H) (hs : IR s) : Rqa SX11_closedIf [.ref 200, .int (i32 s)] e I J (an_clIf V s) c1 := by
  intro Q hQ
  obtain ⟨hG, hGH, hB, hW, hH⟩ := h
  refine x_in (Nat.le_of_ble_eq_true rfl) ?_
  dsimp only [bX11_closedIf, bX11_closedIf_0]
  ((try rw [show (0 : Int32) = i32 (0) from rfl]); (try simp only [i32_add, i32_sub, i32_mul, i32_neg]))
  unfold an_clIf at hQ
  refine x_ob rfl (x_cI (sp_X11_isSight hG hW hs (x_ob rfl (x_cI (sp_X11_is (by split <;> simp) ?_)))))
  dsimp only
  by_cases h1 : 0 ≤ s ∧ s ≤ (vn V : Int) - 1
  · rw [if_pos h1]
    rw [if_pos (by omega)] at hQ
    refine x_eq (by omega) (by omega) (fun h => by omega) (fun _ => ?_)
    have W0 : Rrw (up I 200 0 (1 - 1)) 201 0 V := Rfr.told.rw' hW
    have t0 : up I 200 0 (1 - 1) 200 0 = 0 := up_self
    have r0 : Rfr I (up I 200 0 (1 - 1)) := Rfr.told
    generalize up I 200 0 (1 - 1) = I0 at *
    have g := (gd_s hG (s := s) h1.1 (by omega)).2.2.2.2.2.2
    have G1 : Good (stG V 5 s (1 - vG V 5 s)) := Good_st5 hG (by omega)
    refine x_ob rfl (x_cV (sp_X11_turns hG W0 h1.1 (by omega) fun I1 f1 g1 R1 W1 => ?_))
    refine x_ob rfl (x_cI (sp_X11_closing G1 W1 R1 fun I2 f2 => ?_))
    have e5 : vG (stG V 5 s (1 - vG V 5 s)) 5 s = 1 - vG V 5 s := by
      show (if (5 : Nat) = 5 ∧ s = s then _ else _) = _
      rw [if_pos ⟨rfl, rfl⟩]
    refine x_ob rfl (x_cV (sp_X11_turns (V := stG V 5 s (1 - vG V 5 s)) G1 (f2.rw' W1) h1.1 (by show s < (vn V : Int); omega) fun I3 f3 g3 R3 W3 => ?_))
    rw [e5] at f3
    have fr := turn2 hG W0 h1.1 (by omega) f1 g1 f2 f3 g3
    exact x_rI (hQ I3 _ (r0.trans fr.1) ⟨rfl, by rw [fr.2]; exact t0⟩)
  · rw [if_neg h1]
    rw [if_neg (by omega)] at hQ
    exact x_brr (by trivial) (x_rI (hQ _ 0 Rfr.told up_self))
theorem rq_bestStrike (h : Rn I V H) : Rq0 SX11_bestStrike [.ref 200] e I J (bsk V (vn V)).1 := by
  intro Q hQ
  obtain ⟨hG, hGH, hB, hW, hH⟩ := h
  refine x_in (Nat.le_of_ble_eq_true rfl) ?_
  dsimp only [bX11_bestStrike, bX11_bestStrike_0]
  ((try rw [show (0 : Int32) = i32 (0) from rfl]); (try rw [show (-1 : Int32) = i32 (-1) from rfl]); (try simp only [i32_add, i32_sub, i32_mul, i32_neg]))
  have n := hG.2.1
  refine x_pI rfl ?_
  rw [show ((0 : Nat) : Int) = 0 from rfl]
  refine x_for (vn V) (fun i av μ => ∃ I' : IM, av = [.ref 200, .int (i32 (bsk V i).1), .int (i32 (bsk V i).2), .int (i32 i)] ∧ μ = ME e I' J ∧ Rfr I I') ?_ ?_ (Nat.zero_le _) ⟨_, rfl, rfl, Rfr.told⟩
  · rintro k av μ hk ⟨I', rfl, rfl, hf⟩ hJ
    dsimp only [bX11_bestStrike, bX11_bestStrike_1]
    ((try rw [show (0 : Int32) = i32 (0) from rfl]); (try rw [show (1 : Int32) = i32 (1) from rfl]); (try rw [show (-1 : Int32) = i32 (-1) from rfl]); (try simp only [i32_add, i32_sub, i32_mul, i32_neg]))
    have W0 := hf.rw' hW
    have bb := bsk_bd hG k (by omega)
    have hs : bsk V (k + 1) = if vG V 5 k = 0 ∧ ((bsk V k).1 = -1 ∨ opn V k < (bsk V k).2) then ((k : Int), opn V k) else bsk V k := rfl
    refine x_ob rfl (x_cI (sp_X11_sights W0 (x_le (by omega) (by omega) (fun h => by omega) (fun _ => ?_))))
    refine x_ob rfl (x_cI (sp_X11_counts hG W0 (by omega) (by omega) ?_))
    by_cases h5 : vG V 5 k = 0
    · rw [if_pos h5]
      refine x_eq (by omega) (by omega) (fun h => by omega) (fun _ => ?_)
      have G1 : Good (stG V 5 k (1 - vG V 5 k)) := Good_st5 hG (by omega)
      refine x_ob rfl (x_cV (sp_X11_turns hG W0 (by omega) (by omega) fun I1 f1 g1 R1 W1 => ?_))
      refine x_ob rfl (x_cI (sp_X11_loops G1 R1 (x_ob rfl (x_cI (sp_X11_closing G1 W1 R1 fun I2 f2 => ?_)))))
      have n1 := nL40 G1
      have n2 := ncl_nL (stG V 5 k (1 - vG V 5 k)) (vS V 3)
      have e5 : vG (stG V 5 k (1 - vG V 5 k)) 5 k = 1 - vG V 5 k := by
        show (if (5 : Nat) = 5 ∧ (k : Int) = k then _ else _) = _
        rw [if_pos ⟨rfl, rfl⟩]
      dsimp only
      rw [i32_sub]
      refine x_lI (x_ob rfl (x_cV (sp_X11_turns (V := stG V 5 k (1 - vG V 5 k)) G1 (f2.rw' W1) (by omega) (by show (k : Int) < (vn V : Int); omega) fun I3 f3 g3 R3 W3 => ?_)))
      rw [e5] at f3
      have fr := hf.trans (turn2 hG W0 (by omega) (by omega) f1 g1 f2 f3 g3).1
      have oe : (nL (stG V 5 k (1 - vG V 5 k)) : Int) - (ncl (stG V 5 k (1 - vG V 5 k)) (vS (stG V 5 k (1 - vG V 5 k)) 3) 144 : Nat) = opn V k := by
        rw [h5]; rfl
      have n2' : ncl (stG V 5 k (1 - vG V 5 k)) (vS (stG V 5 k (1 - vG V 5 k)) 3) 144 ≤ nL (stG V 5 k (1 - vG V 5 k)) := n2
      have ob : -40 ≤ opn V k ∧ opn V k ≤ 40 := by rw [← oe]; omega
      dsimp only
      rw [oe]
      refine x_eq (by omega) (by omega) (fun h => ?_) (fun h => x_lt (by omega) (by omega) (fun g => ?_) (fun g => ?_))
      · rw [if_pos ⟨h5, Or.inl h⟩] at hs
        exact hJ _ _ ⟨I3, by rw [hs]; simp only [Int.cast_ofNat_Int, Int.natCast_add, Int.toNat_natCast, i32_add, i32_sub, i32_mul, i32_neg, i32_lit, i64_add, i64_sub, i64_mul, i64_neg, i64_lit, i64_int], rfl, fr⟩
      · rw [if_pos ⟨h5, Or.inr g⟩] at hs
        exact hJ _ _ ⟨I3, by rw [hs]; simp only [Int.cast_ofNat_Int, Int.natCast_add, Int.toNat_natCast, i32_add, i32_sub, i32_mul, i32_neg, i32_lit, i64_add, i64_sub, i64_mul, i64_neg, i64_lit, i64_int], rfl, fr⟩
      · rw [if_neg (fun q => q.2.elim h (fun z => by omega))] at hs
        exact hJ _ _ ⟨I3, by rw [hs]; simp only [Int.cast_ofNat_Int, Int.natCast_add, Int.toNat_natCast, i32_add, i32_sub, i32_mul, i32_neg, i32_lit, i64_add, i64_sub, i64_mul, i64_neg, i64_lit, i64_int], rfl, fr⟩
    · rw [if_neg h5]
      rw [if_neg (fun q => h5 q.1)] at hs
      exact x_brr (by trivial) (hJ _ _ ⟨I', by rw [hs]; simp only [Int.cast_ofNat_Int, Int.natCast_add, Int.toNat_natCast, i32_add, i32_sub, i32_mul, i32_neg, i32_lit, i64_add, i64_sub, i64_mul, i64_neg, i64_lit, i64_int], rfl, hf⟩)
  · rintro av μ ⟨I', rfl, rfl, hf⟩
    dsimp only [bX11_bestStrike, bX11_bestStrike_1]
    exact x_ob rfl (x_cI (sp_X11_sights (hf.rw' hW) (x_le (by omega) (by omega) (fun _ => x_rI (hQ I' hf)) (fun h => by omega))))
theorem rq_errorWith (h : Rn I V H) (ha : IR a) : Rqa SX11_errorWith [.ref 200, .int (i32 a)] e I J (an_errW V a) c1 := by
  intro Q hQ
  obtain ⟨hG, hGH, hB, hW, hH⟩ := h
  refine x_in (Nat.le_of_ble_eq_true rfl) ?_
  dsimp only [bX11_errorWith, bX11_errorWith_0]
  ((try rw [show (0 : Int32) = i32 (0) from rfl]); (try rw [show (2 : Int32) = i32 (2) from rfl]); (try simp only [i32_add, i32_sub, i32_mul, i32_neg]))
  unfold an_errW at hQ
  rw [i32_long ha.1 ha.2, show (1 : Int64) = i64 1 from rfl, show (9999 : Int64) = i64 9999 from rfl]
  unfold IR at ha
  refine x_cI (sp_X11_isIn (by omega) (by omega) (by omega) (x_ob rfl (x_cI (sp_X11_is (by split <;> simp) ?_))))
  dsimp only
  by_cases h1 : 1 ≤ a ∧ a ≤ 9999
  · rw [if_pos h1]
    rw [if_pos h1] at hQ
    refine x_eq (by omega) (by omega) (fun h => by omega) (fun _ => ?_)
    have W0 : Rrw (up I 200 0 (1 - 1)) 201 0 V := Rfr.told.rw' hW
    have t0 : up I 200 0 (1 - 1) 200 0 = 0 := up_self
    have r0 : Rfr I (up I 200 0 (1 - 1)) := Rfr.told
    generalize up I 200 0 (1 - 1) = I0 at *
    have w2 : I0 201 2 = vS V 0 := by have := W_S W0 (i := 0) (by omega) (by omega); simpa using this
    refine x_gR rfl rfl (x_aI rfl (by omega) (by omega) (by omega) (x_gR rfl rfl (x_sA rfl (by omega) (by omega) (by omega) ?_)))
    have W1 : Rrw (up I0 201 2 a) 201 0 (stS V 0 a) := Rrw_sS (w := 0) W0 (by omega) (fun q => by omega)
    refine x_ob rfl (x_cI (sp_X11_foundError (Good_s0 hG h1) W1 fun I2 f2 => ?_))
    rw [show vS (stS V 0 a) 0 = a from (show vS (stS V 0 a) 0 = if (0 : Int) = 0 then a else vS V 0 from rfl).trans (if_pos rfl), ferr_s0]
    refine x_gR rfl rfl (x_sA rfl (by omega) (by omega) (by omega) ?_)
    refine x_rI (hQ _ _ (r0.trans ⟨fun q hq => ?_, fun k hk => ?_⟩) ⟨rfl, ?_⟩)
    · by_cases e : q = 201
      · subst e
        funext k
        rw [up_at, f2 201 (by omega), up_at]
        split
        · rename_i q; rw [q]
        · rfl
      · rw [up_qf e, f2 q (by omega), up_qf e]
    · rw [up_q (by omega), f2 200 (by omega), up_q (by omega)]
    · rw [up_q (by omega), f2 200 (by omega), up_q (by omega)]; exact t0
  · rw [if_neg h1]
    rw [if_neg h1] at hQ
    exact x_brr (by trivial) (x_rI (hQ _ 0 Rfr.told up_self))
theorem sp_X11_tries (hQ : ∀ I' : IM, (∀ q, q ≠ 203 → I' q = I q) → (∀ k : Int, 0 ≤ k → k < 308 → I' 203 k = I 201 k) → Q (.inl none) (ME e I' J)) : SX11_tries [.ref 200] (ME e I J) Q := by
  refine x_in (Nat.le_of_ble_eq_true rfl) ?_
  dsimp only [bX11_tries, bX11_tries_0]
  exact x_gR rfl rfl (x_gR rfl rfl (x_cV (sp_X11_copies rfl rfl (by omega) fun I' f s => x_rV (hQ I' f s))))
theorem sp_X11_laysBack (hQ : ∀ I' : IM, (∀ q, q ≠ 201 → I' q = I q) → (∀ k : Int, 0 ≤ k → k < 308 → I' 201 k = I 203 k) → Q (.inl none) (ME e I' J)) : SX11_laysBack [.ref 200] (ME e I J) Q := by
  refine x_in (Nat.le_of_ble_eq_true rfl) ?_
  dsimp only [bX11_laysBack, bX11_laysBack_0]
  exact x_gR rfl rfl (x_gR rfl rfl (x_cV (sp_X11_copies rfl rfl (by omega) fun I' f s => x_rV (hQ I' f s))))
theorem rq_misfitAfter (h : Rn I V H) (ha : IR a) : RqWJ SX11_misfitAfter [.ref 200, .int (i32 a)] e I J (an_misA V H a) c1 := by
  intro Q hQ
  obtain ⟨hG, hGH, hB, hW, hH⟩ := h
  refine x_in (Nat.le_of_ble_eq_true rfl) ?_
  dsimp only [bX11_misfitAfter, bX11_misfitAfter_0]
  ((try rw [show (0 : Int32) = i32 (0) from rfl]); (try simp only [i32_add, i32_sub, i32_mul, i32_neg]))
  unfold an_misA at hQ
  rw [i32_long ha.1 ha.2, show (0 : Int64) = i64 0 from rfl, show (50 : Int64) = i64 50 from rfl]
  unfold IR at ha
  refine x_cI (sp_X11_isIn (by omega) (by omega) (by omega) (x_ob rfl (x_cI (sp_X11_is (by split <;> simp) ?_))))
  dsimp only
  by_cases h1 : 0 ≤ a ∧ a ≤ 50
  · rw [if_pos h1]
    rw [if_pos h1] at hQ
    obtain ⟨n, rfl⟩ : ∃ n : Nat, a = n := ⟨a.toNat, by omega⟩
    refine x_eq (by omega) (by omega) (fun h => by omega) (fun _ => ?_)
    have W0 : Rrw (up I 200 0 (1 - 1)) 201 0 V := Rfr.told.rw' hW
    have H0 : Rhr (up I 200 0 (1 - 1)) 201 0 (vm V) H := Rfr.told.rh hH
    have t0 : up I 200 0 (1 - 1) 200 0 = 0 := up_self
    have r0 : Rfr I (up I 200 0 (1 - 1)) := Rfr.told
    generalize up I 200 0 (1 - 1) = I0 at *
    refine x_ob rfl (x_cV (sp_X11_tries fun I1 f1 s1 => ?_))
    have W1 : Rrw I1 201 0 V := W0.keep (f1 201 (by omega))
    have H1 : Rhr I1 201 0 (vm V) H := H0.keep (f1 201 (by omega))
    refine x_ob rfl (x_cV (sp_X11_levels hG W1 hGH H1 (hB.mono (by omega)) fun I2 f2 g2 R2 W2 H2 => ?_))
    have lo := lvl_ok hG hGH hB
    refine x_ob rfl (x_cI (sp_X11_rounds hG W2 lo.1 H2 (lo.2.mono (by omega)) (n := n) (by omega) fun I3 f3 g3 R3 W3 H3 => ?_))
    have ro := rbs_drift hG lo.1 lo.2 (n := n) (by omega)
    have rg := (rbs_ok (M := 0) hG n lo.1 lo.2).1
    refine x_ob rfl (x_cJ (sp_X11_misfitNow hG W3 rg H3 (ro.mono (by omega)) fun I4 f4 g4 R4 => ?_))
    refine x_ob rfl (x_cV (sp_X11_laysBack fun I5 f5 s5 => ?_))
    have fr : ∀ q, q < 207 ∨ 214 < q → q ≠ 200 → q ≠ 201 → q ≠ 203 → I5 q = I0 q := fun q a b c d => by
      rw [f5 q c, f4 q (by omega) b, f3 q a b c, f2 q a b c, f1 q d]
    have g5 : ∀ k, k ≠ 10 → I5 200 k = I0 200 k := fun k hk => by
      rw [f5 200 (by omega), g4 k hk, g3 k hk, g2 k hk, f1 200 (by omega)]
    refine x_rJ (hQ I5 _ ⟨fun q hq => ?_, fun k a b => ?_, fun k hk => ?_⟩ ⟨rfl, ?_⟩)
    · rw [fr q (by omega) (by omega) (by omega) (by omega)]; exact r0.1 q (by omega)
    · rw [s5 k a b, f4 203 (by omega) (by omega), f3 203 (by omega) (by omega) (by omega), f2 203 (by omega) (by omega) (by omega), s1 k a b, r0.1 201 (by omega)]
    · rw [g5 k (by omega)]; exact r0.2 k hk
    · rw [g5 0 (by omega)]; exact t0
  · rw [if_neg h1]
    rw [if_neg h1] at hQ
    exact x_brr (by trivial) (x_rJ (hQ _ 0 Rfr.told.w up_self))
theorem rq_heightIf (h : Rn I V H) (ha : IR a) : RqW SX11_heightIf [.ref 200, .int (i32 a)] e I J (an_hIf V H a) c1 := by
  intro Q hQ
  obtain ⟨hG, hGH, hB, hW, hH⟩ := h
  refine x_in (Nat.le_of_ble_eq_true rfl) ?_
  dsimp only [bX11_heightIf, bX11_heightIf_0]
  ((try rw [show (0 : Int32) = i32 (0) from rfl]); (try simp only [i32_add, i32_sub, i32_mul, i32_neg]))
  unfold an_hIf at hQ
  refine x_ob rfl (x_cI (sp_X11_isMark hG hW ha (x_ob rfl (x_cI (sp_X11_is (by split <;> simp) ?_)))))
  dsimp only
  by_cases h1 : 0 ≤ a ∧ a ≤ (vm V : Int) - 1
  · rw [if_pos h1]
    rw [if_pos (by omega)] at hQ
    refine x_eq (by omega) (by omega) (fun h => by omega) (fun _ => ?_)
    have W0 : Rrw (up I 200 0 (1 - 1)) 201 0 V := Rfr.told.rw' hW
    have H0 : Rhr (up I 200 0 (1 - 1)) 201 0 (vm V) H := Rfr.told.rh hH
    have t0 : up I 200 0 (1 - 1) 200 0 = 0 := up_self
    have r0 : Rfr I (up I 200 0 (1 - 1)) := Rfr.told
    generalize up I 200 0 (1 - 1) = I0 at *
    refine x_ob rfl (x_cV (sp_X11_tries fun I1 f1 s1 => ?_))
    have W1 : Rrw I1 201 0 V := W0.keep (f1 201 (by omega))
    have H1 : Rhr I1 201 0 (vm V) H := H0.keep (f1 201 (by omega))
    refine x_ob rfl (x_cV (sp_X11_levels hG W1 hGH H1 (hB.mono (by omega)) fun I2 f2 g2 R2 W2 H2 => ?_))
    have lo := lvl_ok hG hGH hB
    refine x_ob rfl (x_cI (sp_X11_heightOf hG.1 lo.1 H2 (by omega) (x_ob rfl (x_cV (sp_X11_laysBack fun I5 f5 s5 => ?_)))))
    have fr : ∀ q, q < 207 ∨ 214 < q → q ≠ 200 → q ≠ 201 → q ≠ 203 → I5 q = I0 q := fun q a b c d => by
      rw [f5 q c, f2 q a b c, f1 q d]
    have g5 : ∀ k, k ≠ 10 → I5 200 k = I0 200 k := fun k hk => by
      rw [f5 200 (by omega), g2 k hk, f1 200 (by omega)]
    refine x_rI (hQ I5 _ ⟨fun q hq => ?_, fun k a b => ?_, fun k hk => ?_⟩ ⟨rfl, ?_⟩)
    · rw [fr q (by omega) (by omega) (by omega) (by omega)]; exact r0.1 q (by omega)
    · rw [s5 k a b, f2 203 (by omega) (by omega) (by omega), s1 k a b, r0.1 201 (by omega)]
    · rw [g5 k (by omega)]; exact r0.2 k hk
    · rw [g5 0 (by omega)]; exact t0
  · rw [if_neg h1]
    rw [if_neg (by omega)] at hQ
    exact x_brr (by trivial) (x_rI (hQ _ 0 Rfr.told.w up_self))
theorem rq_leastLimit (h : Rn I V H) : Rq0 SX11_leastLimit [.ref 200] e I J (an_ll V) := by
  intro Q hQ
  obtain ⟨hG, hGH, hB, hW, hH⟩ := h
  refine x_in (Nat.le_of_ble_eq_true rfl) ?_
  dsimp only [bX11_leastLimit, bX11_leastLimit_0]
  ((try rw [show (0 : Int32) = i32 (0) from rfl]); (try simp only [i32_add, i32_sub, i32_mul, i32_neg]))
  have h40 := nL40 hG
  refine x_pI rfl ?_
  rw [show ((0 : Nat) : Int) = 0 from rfl]
  refine x_ob rfl (x_cV (sp_X11_reckons hG (Rfr.told.rw' hW) fun I1 f1 f1b R1 => ?_))
  have r1 := Rfr.told.trans (rkf0 f1 f1b).1
  have W1 := r1.rw' hW
  dsimp only
  refine x_for (nL V) (fun i av μ => ∃ (I' : IM) (K : Nat), K ≤ 144 ∧ lk V K = i ∧ av = [.ref 200, .int (i32 (lls V K)), .int (i32 i)] ∧ μ = ME e I' J ∧ Wf I1 I') ?_ ?_ (Nat.zero_le _) ⟨I1, 0, by omega, rfl, rfl, rfl, Wf.refl I1⟩
  · rintro i av μ hi ⟨I', K, hK, hKi, rfl, rfl, hf⟩ hJ
    dsimp only [bX11_leastLimit, bX11_leastLimit_1]
    obtain ⟨k, hKk, hk, hL, hki, gap, hk1⟩ := lk_at hG hi hKi
    have key : ∀ (n : Nat) (l : Int) (I2 : IM), 0 ≤ l → l ≤ 1000 → 1000 - l < n → Wf I1 I2 → (∀ I3 : IM, Wf I1 I3 → fx bX11_leastLimit 1 [.ref 200, .int (i32 (upl V k n l)), .int (i32 ((i : Int) + 1))] (ME e I3 J) Q) → fx bX11_leastLimit 2 [.ref 200, .int (i32 l), .int (i32 i)] (ME e I2 J) Q := by
      intro n
      induction n with
      | zero => intro l I2 a b c; omega
      | succ n ih =>
        intro l I2 a b c f2 hF
        refine fx_in ?_
        dsimp only [bX11_leastLimit, bX11_leastLimit_2]
        ((try rw [show (0 : Int32) = i32 (0) from rfl]); (try rw [show (1 : Int32) = i32 (1) from rfl]); (try rw [show (999 : Int32) = i32 (999) from rfl]); (try simp only [i32_add, i32_sub, i32_mul, i32_neg]))
        simp only [upl] at hF
        refine x_lt (by omega) (by omega) (fun h => ?_) (fun h => ?_)
        · have hf := hF I2 f2
          rw [if_neg (by omega)] at hf; exact hf
        · rw [← hki]
          rw [← hki] at hF ih
          refine x_ob rfl (x_cI (sp_X11_closesWith hG (f2.rw' W1) (f2.rk R1) hk hL (by omega) fun I3 f3 => ?_))
          dsimp only
          by_cases hcl : clo V l k = true
          · rw [if_pos hcl]
            have hf := hF I3 (f2.trans f3)
            rw [if_neg (fun q => q.2 hcl)] at hf
            exact x_eq (by omega) (by omega) (fun h => by omega) (fun _ => hf)
          · rw [if_neg hcl]
            rw [if_pos ⟨by omega, hcl⟩] at hF
            exact x_brr (by trivial) (x_lI (ih (l + 1) I3 (by omega) (by omega) (by omega) (f2.trans f3) hF))
    refine x_ob rfl (x_cI (sp_X11_loops hG (hf.rk R1) (x_le (by omega) (by omega) (fun h => by omega) (fun _ => ?_))))
    have lr := lls_rg V K
    refine key 1001 (lls V K) I' lr.1 lr.2 (by omega) hf fun I3 f3 => ?_
    refine hJ _ _ ⟨I3, k + 1, by omega, hk1, ?_, rfl, f3⟩
    have : lls V (k + 1) = upl V k 1001 (lls V K) := by
      simp only [lls]
      rw [if_pos hL, lls_flat hKk gap]
    rw [this]
    simp only [Int.cast_ofNat_Int, Int.natCast_add, Int.toNat_natCast, i32_add, i32_sub, i32_mul, i32_neg, i32_lit, i64_add, i64_sub, i64_mul, i64_neg, i64_lit, i64_int]
  · rintro av μ ⟨I', K, hK, hKi, rfl, rfl, hf⟩
    dsimp only [bX11_leastLimit, bX11_leastLimit_1]
    ((try rw [show (-1 : Int32) = i32 (-1) from rfl]); (try rw [show (999 : Int32) = i32 (999) from rfl]); (try simp only [i32_add, i32_sub, i32_mul, i32_neg]))
    have lr := lls_rg V K
    have hq := hQ I' (r1.trans hf.rfr)
    unfold an_ll at hq
    rw [lls_flat hK (lk_gap hKi.symm)] at hq
    refine x_ob rfl (x_cI (sp_X11_loops hG (hf.rk R1) (x_le (by omega) (by omega) (fun _ => ?_) (fun h => by omega))))
    refine x_le (by omega) (by omega) (fun h => ?_) (fun h => ?_)
    · rw [if_pos h] at hq; exact x_rI hq
    · rw [if_neg (by omega)] at hq; exact x_rI hq
theorem rq_meanSwings (h : Rn I V H) : RqD SX11_meanSwings [.ref 200] e I J (msw V) := by
  intro Q hQ
  obtain ⟨hG, hGH, hB, hW, hH⟩ := h
  have n := hG.2.1
  refine x_in (Nat.le_of_ble_eq_true rfl) ?_
  dsimp only [bX11_meanSwings, bX11_meanSwings_0]
  ((try rw [show (0 : Int32) = i32 (0) from rfl]); (try simp only [i32_add, i32_sub, i32_mul, i32_neg]))
  refine x_pI rfl ?_
  rw [show ((0 : Nat) : Int) = 0 from rfl]
  have r1 : Rfr I (up I 200 0 0) := Rfr.told
  have W1 := r1.rw' hW
  generalize up I 200 0 0 = I1 at *
  refine x_for (vn V) (fun i av μ => av = [.ref 200, .int (i32 (sm (sws V) i)), .int (i32 (ct (swc V) i : Nat)), .int (i32 i)] ∧ μ = ME e I1 J) ?_ ?_ (Nat.zero_le _) ⟨rfl, rfl⟩
  · rintro i av μ hi ⟨rfl, rfl⟩ hJ
    dsimp only [bX11_meanSwings, bX11_meanSwings_1]
    ((try rw [show (0 : Int32) = i32 (0) from rfl]); (try rw [show (1 : Int32) = i32 (1) from rfl]); (try simp only [i32_add, i32_sub, i32_mul, i32_neg]))
    have s1 : sm (sws V) (i + 1) = sm (sws V) i + sws V i := rfl
    have s2 : ct (swc V) (i + 1) = ct (swc V) i + (if swc V i = true then 1 else 0) := rfl
    have sv := W_sv hG W1 (s := (i : Int)) (by omega) (by omega)
    have gs := gd_s hG (s := (i : Int)) (by omega) (by omega)
    refine x_ob rfl (x_cI (sp_X11_sights W1 (x_le (by omega) (by omega) (fun h => by omega) (fun _ => ?_))))
    refine x_ob rfl (x_cI (sp_X11_counts hG W1 (by omega) (by omega) ?_))
    by_cases h5 : vG V 5 i = 0
    · rw [if_pos h5]
      refine x_eq (by omega) (by omega) (fun h => by omega) (fun _ => ?_)
      refine x_ob rfl (x_cI (sp_X11_ofSight (by omega) (by omega) (by omega) (by omega) ?_))
      refine x_ob rfl (x_cI (sp_X11_ofSight (by omega) (by omega) (by omega) (by omega) ?_))
      dsimp only
      rw [sv.1, sv.2.1]
      refine x_ob rfl (x_cI (sp_X11_swingsOf hG W1 gs.1 gs.2.1 ?_))
      dsimp only
      rw [i32_add]
      refine x_lI (x_lI (hJ _ _ ⟨?_, rfl⟩))
      rw [s1, s2, if_pos (swc_iff.mpr h5), show sws V i = swg (dst V (vG V 0 i) (vG V 1 i)) (vS V 0) from if_pos h5]
      simp only [Int.cast_ofNat_Int, Int.natCast_add, Int.toNat_natCast, i32_add, i32_sub, i32_mul, i32_neg, i32_lit, i64_add, i64_sub, i64_mul, i64_neg, i64_lit, i64_int, Int.natCast_one]
    · rw [if_neg h5]
      refine x_brr (by trivial) (hJ _ _ ⟨?_, rfl⟩)
      rw [s1, s2, if_neg (fun q => h5 (swc_iff.mp q)), show sws V i = 0 from if_neg h5]
      simp only [Int.cast_ofNat_Int, Int.natCast_add, Int.toNat_natCast, i32_add, i32_sub, i32_mul, i32_neg, i32_lit, i64_add, i64_sub, i64_mul, i64_neg, i64_lit, i64_int, Nat.add_zero, Int.add_zero]
  · rintro av μ ⟨rfl, rfl⟩
    dsimp only [bX11_meanSwings, bX11_meanSwings_1]
    ((try rw [show (0 : Int32) = i32 (0) from rfl]); (try simp only [i32_add, i32_sub, i32_mul, i32_neg]))
    have cl := ct_le (swc V) (vn V)
    have hq := hQ I1 r1
    refine x_ob rfl (x_cI (sp_X11_sights W1 (x_le (by omega) (by omega) (fun _ => ?_) (fun h => by omega))))
    unfold msw at hq
    refine x_eq (by omega) (by omega) (fun h => ?_) (fun h => ?_)
    · rw [if_pos (by omega)] at hq; exact hq
    · rw [if_neg (by omega)] at hq; exact ⟨nan_ddiv _ (by omega) (by omega), hq⟩
theorem rq_closedShare (h : Rn I V H) : RqF SX11_closedShare [.ref 200] e I J (csh V) := by
  intro Q hQ
  obtain ⟨hG, hGH, hB, hW, hH⟩ := h
  refine x_in (Nat.le_of_ble_eq_true rfl) ?_
  dsimp only [bX11_closedShare, bX11_closedShare_0]
  ((try rw [show (0 : Int32) = i32 (0) from rfl]); (try simp only [i32_add, i32_sub, i32_mul, i32_neg]))
  have h40 := nL40 hG
  have nc := ncl_nL V (vS V 3)
  refine x_pI rfl ?_
  rw [show ((0 : Nat) : Int) = 0 from rfl]
  refine x_ob rfl (x_cV (sp_X11_reckons hG (Rfr.told.rw' hW) fun I1 f1 f1b R1 => ?_))
  have r1 := Rfr.told.trans (rkf0 f1 f1b).1
  have W1 := r1.rw' hW
  unfold csh at hQ
  refine x_ob rfl (x_cI (sp_X11_loops hG R1 (x_eq (by omega) (by omega) (fun h => ?_) (fun h => ?_))))
  · rw [if_pos (by omega)] at hQ; exact hQ I1 r1
  · rw [if_neg (by omega)] at hQ
    refine x_ob rfl (x_cI (sp_X11_closing hG W1 R1 fun I2 f2 => x_ob rfl (x_cI (sp_X11_loops hG (f2.rk R1) ?_))))
    have ns := (nan_share (ncl V (vS V 3) 144) (by omega) (nL V - 1) (by omega)).1
    rw [show ((nL V - 1 : Nat) : Int) + 1 = (nL V : Int) by omega] at ns
    exact ⟨ns, hQ I2 (r1.trans f2.rfr)⟩
end Law94
