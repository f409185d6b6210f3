/-! ===== the reference is changed ===== -/
def Rg (I I' : IM) : Prop := (∀ q, q < 200 ∨ q = 205 ∨ q = 215 ∨ q = 216 → I' q = I q) ∧ ∀ k, k = 8 ∨ k = 20 ∨ k = 27 ∨ k = 28 ∨ k = 31 → I' 200 k = I 200 k
def Rc (S : ST) (as : List Value) (e : Nat) (I J : IM) (n : Nat) (L : Nat → Int → Int) (r : An) (V' : Vw) (H' : Hw) (f : Nat → Int) : Prop :=
  ∀ Q : Post, (∀ w : Int, r = .inl w → ∀ (I' : IM) (row : Int → Int), Rg I I' → I' 200 0 = 0 → Rrw I' 201 0 V' → Rhr I' 201 0 (vm V') H' → (∀ k : Int, 0 ≤ k → k < 308 → row k = I 201 k) → HR I' (min (n + 1) 10) (pushR row L) → Q (.inl (some (.int (i32 w)))) (ME e I' J)) →
    (∀ k : Nat, r = .inr k → ∀ (I' : IM) (v : Int), (v = 0 ∨ v = 1) → Rfr I I' → I' 200 0 = f k → Q (.inl (some (.int (i32 v)))) (ME e I' J)) → S as (ME e I J) Q
theorem HR.keep {I I' : IM} {n : Nat} {L : Nat → Int → Int} (h : HR I n L) (h7 : I' 200 7 = I 200 7) (h6 : I' 206 = I 206) : HR I' n L := by
  unfold HR at *
  rw [h7, h6]; exact h
section Law95
variable {e : Nat} {I J : IM} {Q : Post} {V V' : Vw} {H H' : Hw} {a b c d t v s w l x : Int} {n : Nat} {L : Nat → Int → Int}
theorem rc_done {I3 : IM} (hL : HR I n L) (fr : ∀ q, q < 200 ∨ q = 205 ∨ q = 206 ∨ q = 215 ∨ q = 216 → I3 q = I q) (g : ∀ k, k = 7 ∨ k = 8 ∨ k = 20 ∨ k = 27 ∨ k = 28 ∨ k = 31 → I3 200 k = I 200 k) (t0 : I3 200 0 = 0) (row : ∀ k : Int, 0 ≤ k → k < 308 → I3 202 k = I 201 k)
    (hW : Rrw I3 201 0 V') (hH : Rhr I3 201 0 (vm V') H')
    (hQ : ∀ (I' : IM) (row : Int → Int), Rg I I' → I' 200 0 = 0 → Rrw I' 201 0 V' → Rhr I' 201 0 (vm V') H' → (∀ k : Int, 0 ≤ k → k < 308 → row k = I 201 k) → HR I' (min (n + 1) 10) (pushR row L) → Q (.inl (some (.int (i32 v)))) (ME e I' J)) :
    SX11_done [.ref 200, .int (i32 v)] (ME e I3 J) Q := by
  refine sp_X11_done (hL.keep (g 7 (by omega)) (fr 206 (by omega))) fun I4 f4 g4 h4 => ?_
  exact hQ I4 _ ⟨fun q hq => by rw [f4 q (by omega) (by omega)]; exact fr q (by omega), fun k hk => by rw [g4 k (by omega)]; exact g k (by omega)⟩ (by rw [g4 0 (by omega)]; exact t0) (hW.keep (f4 201 (by omega) (by omega))) (hH.keep (f4 201 (by omega) (by omega))) row h4
theorem Rrw_ad {I' : IM} (hm : vm V ≤ 12) (hn : vn V < 40) (hW : Rrw I 201 0 V) (h1 : I' 201 1 = (vn V : Int) + 1) (hk : ∀ k : Int, k < 68 + 6 * (vn V : Int) → k ≠ 1 → I' 201 k = I 201 k)
    (h0 : I' 201 (68 + 6 * (vn V : Int) + 0) = a) (ha1 : I' 201 (68 + 6 * (vn V : Int) + 1) = b) (h2 : I' 201 (68 + 6 * (vn V : Int) + 2) = c) (h3 : I' 201 (68 + 6 * (vn V : Int) + 3) = d) (h4 : I' 201 (68 + 6 * (vn V : Int) + 4) = t) (h5 : I' 201 (68 + 6 * (vn V : Int) + 5) = 0) : Rrw I' 201 0 (adV V a b c d t) := by
  obtain ⟨w0, w1, w2, w3, w4, w5, _, _, _, w9⟩ := hW
  have em : vm (adV V a b c d t) = vm V := rfl
  have en : vn (adV V a b c d t) = vn V + 1 := rfl
  refine ⟨?_, ?_, fun i a b => ?_, fun h => ?_, fun j a b => ?_, fun j a b => ?_, trivial, trivial, trivial, fun i y z f hf => ?_⟩
  · rw [hk _ (by omega) (by omega)]; exact w0
  · rw [show (0 : Int) + 1 = 1 by omega, h1, en]; omega
  · rw [hk _ (by omega) (by omega)]; exact w2 i a b
  · rw [hk _ (by omega) (by omega)]; exact w3 h
  · rw [hk _ (by omega) (by omega)]; exact w4 j a b
  · rw [hk _ (by omega) (by omega)]; exact w5 j a b
  · have e : vG (adV V a b c d t) f i = if i = vn V then (if f = 0 then a else if f = 1 then b else if f = 2 then c else if f = 3 then d else if f = 4 then t else 0) else vG V f i := rfl
    rw [e]
    by_cases q : i = vn V
    · rw [if_pos q, q]
      rcases (show f = 0 ∨ f = 1 ∨ f = 2 ∨ f = 3 ∨ f = 4 ∨ f = 5 by omega) with rfl | rfl | rfl | rfl | rfl | rfl
      · simpa using h0
      · simpa using ha1
      · simpa using h2
      · simpa using h3
      · simpa using h4
      · simpa using h5
    · rw [if_neg q, hk _ (by omega) (by omega)]
      exact w9 i y (by omega) f hf
theorem sp_X11_addsSight (hG : Good V) (hW : Rrw I 201 0 V) (hn : vn V < 40)
    (hQ : ∀ I' : IM, (∀ q, q ≠ 201 → I' q = I q) → (∀ k : Int, k < 68 → k ≠ 1 → I' 201 k = I 201 k) → Rrw I' 201 0 (adV V a b c d t) → Q (.inl (some (.int (i32 (vn V))))) (ME e I' J)) : SX11_addsSight [.ref 200, .int (i32 a), .int (i32 b), .int (i32 c), .int (i32 d), .int (i32 t)] (ME e I J) Q := by
  refine x_in (Nat.le_of_ble_eq_true rfl) ?_
  dsimp only [bX11_addsSight, bX11_addsSight_0]
  ((try rw [show (0 : Int32) = i32 (0) from rfl]); (try rw [show (1 : Int32) = i32 (1) from rfl]); (try rw [show (2 : Int32) = i32 (2) from rfl]); (try rw [show (3 : Int32) = i32 (3) from rfl]); (try rw [show (4 : Int32) = i32 (4) from rfl]); (try rw [show (5 : Int32) = i32 (5) from rfl]); (try simp only [i32_add, i32_sub, i32_mul, i32_neg]))
  have m := hG.1
  refine x_ob rfl (x_cI (sp_X11_sights hW ?_))
  dsimp only
  refine x_ob rfl (x_cV (sp_X11_laysSight (by omega) (by omega) (by omega) (by omega) ?_))
  refine x_ob rfl (x_cV (sp_X11_laysSight (by omega) (by omega) (by omega) (by omega) ?_))
  refine x_ob rfl (x_cV (sp_X11_laysSight (by omega) (by omega) (by omega) (by omega) ?_))
  refine x_ob rfl (x_cV (sp_X11_laysSight (by omega) (by omega) (by omega) (by omega) ?_))
  refine x_ob rfl (x_cV (sp_X11_laysSight (by omega) (by omega) (by omega) (by omega) ?_))
  refine x_ob rfl (x_cV (sp_X11_laysSight (by omega) (by omega) (by omega) (by omega) ?_))
  rw [i32_add]
  refine x_gR rfl rfl (x_sA rfl (by omega) (by omega) (by omega) ?_)
  refine x_rI (hQ _ (fun q h => by rw [up_qf h, up_qf h, up_qf h, up_qf h, up_qf h, up_qf h, up_qf h]) (fun k hk h1 => by rw [up_k (by omega), up_k (by omega), up_k (by omega), up_k (by omega), up_k (by omega), up_k (by omega), up_k (by omega)]) (Rrw_ad m hn hW up_self ?_ ?_ ?_ ?_ ?_ ?_ ?_))
  · intro k hk h1
    rw [up_k (by omega), up_k (by omega), up_k (by omega), up_k (by omega), up_k (by omega), up_k (by omega), up_k (by omega)]
  · rw [up_k (by omega), up_k (by omega), up_k (by omega), up_k (by omega), up_k (by omega), up_k (by omega), up_self]
  · rw [up_k (by omega), up_k (by omega), up_k (by omega), up_k (by omega), up_k (by omega), up_self]
  · rw [up_k (by omega), up_k (by omega), up_k (by omega), up_k (by omega), up_self]
  · rw [up_k (by omega), up_k (by omega), up_k (by omega), up_self]
  · rw [up_k (by omega), up_k (by omega), up_self]
  · rw [up_k (by omega), up_self]
theorem rc_addSight (h : Rn I V H) (hL : HR I n L) (ha : IR a) (hb : IR b) (hc : IR c) (hdd : IR d) (ht : IR t) : Rc SX11_addSight [.ref 200, .int (i32 a), .int (i32 b), .int (i32 c), .int (i32 d), .int (i32 t)] e I J n L (an_add V a b c d t) (adV V a b c d t) H c12 := by
  intro Q hQ hX
  obtain ⟨hG, hGH, hB, hW, hH⟩ := h
  have n40 := hG.2.1
  refine x_in (Nat.le_of_ble_eq_true rfl) ?_
  dsimp only [bX11_addSight, bX11_addSight_0]
  ((try rw [show (0 : Int32) = i32 (0) from rfl]); (try rw [show (1 : Int32) = i32 (1) from rfl]); (try rw [show (2 : Int32) = i32 (2) from rfl]); (try rw [show (3 : Int32) = i32 (3) from rfl]); (try rw [show (40 : Int32) = i32 (40) from rfl]); (try simp only [i32_add, i32_sub, i32_mul, i32_neg]))
  unfold an_add at hQ hX
  have am := areM_or V a b
  refine x_ob rfl (x_cI (sp_X11_areMarks hG hW ha hb (x_ob rfl (x_cI (sp_X11_is am ?_)))))
  dsimp only
  rcases am with h0 | h1
  · rw [h0]
    rw [if_neg (by omega)] at hX
    exact x_brr (by trivial) (x_rI (hX 1 rfl _ 0 (by omega) Rfr.told up_self))
  rw [h1]
  rw [if_pos h1] at hQ hX
  have tt := areM_in h1
  refine x_eq (by omega) (by omega) (fun h => by omega) (fun _ => ?_)
  have W0 : Rrw (up I 200 0 (1 - 1)) 201 0 V := Rfr.told.rw' hW
  have H0 : Rhr (up I 200 0 (1 - 1)) 201 0 (vm V) H := Rfr.told.rh hH
  have r0 : Rfr I (up I 200 0 (1 - 1)) := Rfr.told
  have L0 : HR (up I 200 0 (1 - 1)) n L := hL.keep (up_k (by omega)) (up_qf (by omega))
  have row0 : (up I 200 0 (1 - 1)) 201 = I 201 := up_qf (by omega)
  generalize up I 200 0 (1 - 1) = I0 at *
  have bad : (¬ (a ≠ b ∧ (0 ≤ c ∧ c ≤ 1) ∧ (-9999 ≤ d ∧ d ≤ 9999) ∧ (-40 ≤ t ∧ t ≤ 60))) → Q (.inl (some (.int (i32 0)))) (ME e (up I0 200 0 (if (0 : Int) = 0 then 2 else 0)) J) := fun h => by
    rw [if_neg h] at hX
    exact hX 2 rfl _ 0 (by omega) (r0.trans Rfr.told) (by rw [up_self, if_pos rfl]; rfl)
  refine x_eq ha hb (fun hab => ?_) (fun hab => ?_)
  · refine x_ob rfl (x_cI (sp_X11_may (v := 0) (by omega) ?_))
    exact x_brr (by trivial) (x_rI (bad (fun q => q.1 hab)))
  rw [i32_long hc.1 hc.2, show (0 : Int64) = i64 0 from rfl, show (1 : Int64) = i64 1 from rfl]
  unfold IR at hc hdd ht
  refine x_cI (sp_X11_isIn (by omega) (by omega) (by omega) ?_)
  by_cases c1 : 0 ≤ c ∧ c ≤ 1
  rotate_left
  · rw [if_neg c1]
    refine x_brr (by trivial) (x_ob rfl (x_cI (sp_X11_may (v := 0) (by omega) ?_)))
    exact x_brr (by trivial) (x_rI (bad (fun q => c1 q.2.1)))
  rw [if_pos c1]
  refine x_eq (by omega) (by omega) (fun h => by omega) (fun _ => ?_)
  refine x_cI (sp_X11_isReading (by omega) ?_)
  by_cases d1 : -9999 ≤ d ∧ d ≤ 9999
  rotate_left
  · rw [if_neg d1]
    refine x_brr (by trivial) (x_ob rfl (x_cI (sp_X11_may (v := 0) (by omega) ?_)))
    exact x_brr (by trivial) (x_rI (bad (fun q => d1 q.2.2.1)))
  rw [if_pos d1]
  refine x_eq (by omega) (by omega) (fun h => by omega) (fun _ => ?_)
  rw [i32_long ht.1 ht.2, show (-40 : Int64) = i64 (-40) from rfl, show (60 : Int64) = i64 60 from rfl]
  refine x_cI (sp_X11_isIn (by omega) (by omega) (by omega) ?_)
  by_cases t1 : -40 ≤ t ∧ t ≤ 60
  rotate_left
  · rw [if_neg t1]
    refine x_brr (by trivial) (x_ob rfl (x_cI (sp_X11_may (v := 0) (by omega) ?_)))
    exact x_brr (by trivial) (x_rI (bad (fun q => t1 q.2.2.2)))
  rw [if_pos t1]
  rw [if_pos ⟨hab, c1, d1, t1⟩] at hQ hX
  refine x_eq (by omega) (by omega) (fun h => by omega) (fun _ => ?_)
  refine x_ob rfl (x_cI (sp_X11_may (v := 1) (by omega) ?_))
  refine x_eq (by omega) (by omega) (fun h => by omega) (fun _ => ?_)
  have r1 : Rfr I (up I0 200 0 (if (1 : Int) = 0 then 2 else 0)) := r0.trans Rfr.told
  have W1 : Rrw (up I0 200 0 (if (1 : Int) = 0 then 2 else 0)) 201 0 V := Rfr.told.rw' W0
  have H1 : Rhr (up I0 200 0 (if (1 : Int) = 0 then 2 else 0)) 201 0 (vm V) H := Rfr.told.rh H0
  generalize up I0 200 0 (if (1 : Int) = 0 then 2 else 0) = I1 at *
  refine x_ob rfl (x_cI (sp_X11_sights W1 (x_le (by omega) (by omega) (fun hn => ?_) (fun hn => ?_))))
  · rw [if_neg (by omega)] at hX
    refine x_ob rfl (x_cI (sp_X11_may (v := 0) (by omega) ?_))
    exact x_brr (by trivial) (x_rI (hX 3 rfl _ 0 (by omega) (r1.trans Rfr.told) (by rw [up_self, if_pos rfl]; rfl)))
  · rw [if_pos (by omega)] at hQ
    refine x_ob rfl (x_cI (sp_X11_may (v := 1) (by omega) ?_))
    refine x_eq (by omega) (by omega) (fun h => by omega) (fun _ => ?_)
    have r2 : Rfr I (up I1 200 0 (if (1 : Int) = 0 then 3 else 0)) := r1.trans Rfr.told
    have t2 : up I1 200 0 (if (1 : Int) = 0 then 3 else 0) 200 0 = 0 := up_self
    generalize up I1 200 0 (if (1 : Int) = 0 then 3 else 0) = I2 at *
    refine x_ob rfl (x_cV (sp_X11_starts fun I3 f3 s3 => ?_))
    refine x_ob rfl (x_cI (sp_X11_addsSight hG ((r2.rw' hW).keep (f3 201 (by omega))) (by omega) fun I4 f4 k4 W4 => ?_))
    have fr : ∀ q, q ≠ 201 → q ≠ 202 → I4 q = I2 q := fun q a b => by rw [f4 q a, f3 q b]
    refine x_ob rfl (x_cI (rc_done (I := I) (I3 := I4) (V' := adV V a b c d t) (H' := H) hL (fun q hq => by rw [fr q (by omega) (by omega)]; exact r2.1 q (by omega)) (fun k hk => by rw [fr 200 (by omega) (by omega)]; exact r2.2 k hk) (by rw [fr 200 (by omega) (by omega)]; exact t2) (fun k y z => by rw [f4 202 (by omega), s3 k y z, r2.1 201 (by omega)]) W4 ?_ (fun I' row g1 g2 g3 g4 g5 g6 => x_rI (hQ _ rfl I' row g1 g2 g3 g4 g5 g6))))
    intro k h0 h1
    have m := hG.1
    have em : vm (adV V a b c d t) = vm V := rfl
    have t := (r2.rh hH) k h0 (by omega)
    rw [k4 _ (by omega) (by omega), k4 _ (by omega) (by omega), k4 _ (by omega) (by omega), f3 201 (by omega)]
    exact t
theorem rc_strike (h : Rn I V H) (hL : HR I n L) (hs : IR s) (hx : x = 0 ∨ x = 1) : Rc SX11_strike [.ref 200, .int (i32 s), .int (i32 x)] e I J n L (an_strike V s) (stG V 5 s x) H c1 := by
  intro Q hQ hX
  obtain ⟨hG, hGH, hB, hW, hH⟩ := h
  have n40 := hG.2.1
  have m := hG.1
  refine x_in (Nat.le_of_ble_eq_true rfl) ?_
  dsimp only [bX11_strike, bX11_strike_0]
  ((try rw [show (0 : Int32) = i32 (0) from rfl]); (try rw [show (1 : Int32) = i32 (1) from rfl]); (try rw [show (5 : Int32) = i32 (5) from rfl]); (try simp only [i32_add, i32_sub, i32_mul, i32_neg]))
  unfold an_strike at hQ hX
  refine x_ob rfl (x_cI (sp_X11_isSight hG hW hs (x_ob rfl (x_cI (sp_X11_is (by split <;> simp) ?_)))))
  dsimp only
  by_cases h1 : 0 ≤ s ∧ s ≤ (vn V : Int) - 1
  · rw [if_pos h1]
    rw [if_pos (by omega)] at hQ
    refine x_eq (by omega) (by omega) (fun h => by omega) (fun _ => ?_)
    have r0 : Rfr I (up I 200 0 (1 - 1)) := Rfr.told
    have t0 : up I 200 0 (1 - 1) 200 0 = 0 := up_self
    generalize up I 200 0 (1 - 1) = I0 at *
    refine x_ob rfl (x_cV (sp_X11_starts fun I3 f3 s3 => ?_))
    have W3 : Rrw I3 201 0 V := (r0.rw' hW).keep (f3 201 (by omega))
    have H3 : Rhr I3 201 0 (vm V) H := (r0.rh hH).keep (f3 201 (by omega))
    have g5 := (gd_s hG (s := s) h1.1 (by omega)).2.2.2.2.2.2
    refine x_ob rfl (x_cI (sp_X11_ofSight h1.1 (by omega) (by omega) (by omega) ?_))
    dsimp only
    rw [show I3 201 (68 + 6 * s + 5) = vG V 5 s from W_s W3 5 h1.1 (by omega) (by omega)]
    have fin : ∀ y : Int, y = x → SX11_done [.ref 200, .int (i32 (vG V 5 s))] (ME e (up I3 201 (68 + 6 * s + 5) y) J) (fun r μ1 => match r with
      | .inl (some (.int v)) => (br (v = i32 1) (rZ (i32 1)) (rZ (i32 0))) μ1 Q
      | .inr E => Q (.inr E) μ1
      | _ => False) := fun y hy => by
      subst hy
      refine rc_done (I := I) (V' := stG V 5 s y) (H' := H) hL (fun q hq => by rw [up_qf (by omega), f3 q (by omega)]; exact r0.1 q (by omega)) (fun k hk => by rw [up_q (by omega), f3 200 (by omega)]; exact r0.2 k hk) (by rw [up_q (by omega), f3 200 (by omega)]; exact t0) (fun k y z => by rw [up_q (by omega), s3 k y z, r0.1 201 (by omega)]) (Rrw_st5 m W3 h1.1) ?_ (fun I' row g1 g2 g3 g4 g5' g6 => ?_)
      · intro k h0 h2
        have em : vm (stG V 5 s y) = vm V := rfl
        rw [up_k (by omega), up_k (by omega), up_k (by omega)]
        exact H3 k h0 (by omega)
      · have hq := hQ _ rfl I' row g1 g2 g3 g4 g5' g6
        dsimp only
        refine x_eq (by omega) (by omega) (fun h => ?_) (fun h => ?_)
        · rw [h] at hq; exact x_rZ (v := 1) (by omega) hq
        · rw [show vG V 5 s = 0 by omega] at hq; exact x_rZ (v := 0) (by omega) hq
    refine x_eq (by omega) (by omega) (fun h => ?_) (fun h => ?_)
    · exact x_ob rfl (x_cV (sp_X11_laysSight h1.1 (by omega) (by omega) (by omega) (x_ob rfl (x_cI (fin 0 h.symm)))))
    · exact x_ob rfl (x_cV (sp_X11_laysSight h1.1 (by omega) (by omega) (by omega) (x_ob rfl (x_cI (fin 1 (by omega))))))
  · rw [if_neg h1]
    rw [if_neg (by omega)] at hX
    exact x_brr (by trivial) (x_rZ (v := 0) (by omega) (hX 1 rfl _ 0 (by omega) Rfr.told up_self))
theorem Rrw_sw (hm : vm V ≤ 12) (hW : Rrw I 201 0 V) (h0 : 0 ≤ s) : Rrw (up (up I 201 (68 + 6 * s + 3) d) 201 (68 + 6 * s + 2) (1 - vG V 2 s)) 201 0 (swV V s d) := by
  obtain ⟨w0, w1, w2, w3, w4, w5, _, _, _, w9⟩ := hW
  have em : vm (swV V s d) = vm V := rfl
  refine ⟨?_, ?_, fun i a b => ?_, fun h => ?_, fun j a b => ?_, fun j a b => ?_, trivial, trivial, trivial, fun i a b f hf => ?_⟩
  · rw [up_k (by omega), up_k (by omega)]; exact w0
  · rw [up_k (by omega), up_k (by omega)]; exact w1
  · rw [up_k (by omega), up_k (by omega)]; exact w2 i a b
  · rw [up_k (by omega), up_k (by omega)]; exact w3 h
  · rw [up_k (by omega), up_k (by omega)]; exact w4 j a b
  · rw [up_k (by omega), up_k (by omega)]; exact w5 j a b
  · have e : vG (swV V s d) f i = if f = 2 ∧ i = s then 1 - vG V 2 s else if f = 3 ∧ i = s then d else vG V f i := rfl
    rw [e]
    by_cases h : f = 2 ∧ i = s
    · rw [if_pos h, up_at, if_pos (by obtain ⟨h1, h2⟩ := h; subst h1; subst h2; omega)]
    · rw [if_neg h, up_k (by omega)]
      by_cases h3 : f = 3 ∧ i = s
      · rw [if_pos h3, up_at, if_pos (by obtain ⟨h1, h2⟩ := h3; subst h1; subst h2; omega)]
      · rw [if_neg h3, up_k (by omega)]
        exact w9 i a b f hf
theorem rc_swap (h : Rn I V H) (hL : HR I n L) (hs : IR s) (hd : IR d) : Rc SX11_swap [.ref 200, .int (i32 s), .int (i32 d)] e I J n L (an_swap V s d) (swV V s d) H c12 := by
  intro Q hQ hX
  obtain ⟨hG, hGH, hB, hW, hH⟩ := h
  have n40 := hG.2.1
  have m := hG.1
  refine x_in (Nat.le_of_ble_eq_true rfl) ?_
  dsimp only [bX11_swap, bX11_swap_0]
  ((try rw [show (0 : Int32) = i32 (0) from rfl]); (try rw [show (1 : Int32) = i32 (1) from rfl]); (try rw [show (2 : Int32) = i32 (2) from rfl]); (try rw [show (3 : Int32) = i32 (3) from rfl]); (try simp only [i32_add, i32_sub, i32_mul, i32_neg]))
  unfold an_swap at hQ hX
  refine x_ob rfl (x_cI (sp_X11_isSight hG hW hs (x_ob rfl (x_cI (sp_X11_is (by split <;> simp) ?_)))))
  dsimp only
  by_cases h1 : 0 ≤ s ∧ s ≤ (vn V : Int) - 1
  · rw [if_pos h1]
    rw [if_pos (by omega)] at hQ hX
    refine x_eq (by omega) (by omega) (fun h => by omega) (fun _ => ?_)
    refine x_cI (sp_X11_isReading hd (x_ob rfl (x_cI (sp_X11_may (by split <;> simp) ?_))))
    dsimp only
    by_cases h2 : -9999 ≤ d ∧ d ≤ 9999
    · rw [if_pos h2]
      rw [if_pos h2] at hQ
      refine x_eq (by omega) (by omega) (fun h => by omega) (fun _ => ?_)
      have r0 : Rfr I (up (up I 200 0 (1 - 1)) 200 0 (if (1 : Int) = 0 then 2 else 0)) := Rfr.told.trans Rfr.told
      have t0 : up (up I 200 0 (1 - 1)) 200 0 (if (1 : Int) = 0 then 2 else 0) 200 0 = 0 := up_self
      generalize up (up I 200 0 (1 - 1)) 200 0 (if (1 : Int) = 0 then 2 else 0) = I0 at *
      refine x_ob rfl (x_cV (sp_X11_starts fun I3 f3 s3 => ?_))
      have W3 : Rrw I3 201 0 V := (r0.rw' hW).keep (f3 201 (by omega))
      have H3 : Rhr I3 201 0 (vm V) H := (r0.rh hH).keep (f3 201 (by omega))
      refine x_ob rfl (x_cV (sp_X11_laysSight h1.1 (by omega) (by omega) (by omega) ?_))
      refine x_ob rfl (x_cI (sp_X11_ofSight h1.1 (by omega) (by omega) (by omega) ?_))
      dsimp only
      rw [show up I3 201 (68 + 6 * s + 3) d 201 (68 + 6 * s + 2) = vG V 2 s by rw [up_k (by omega)]; exact W_s W3 2 h1.1 (by omega) (by omega), i32_sub]
      refine x_ob rfl (x_cV (sp_X11_laysSight h1.1 (by omega) (by omega) (by omega) ?_))
      refine x_ob rfl (x_cI (sp_X11_ofSight h1.1 (by omega) (by omega) (by omega) ?_))
      dsimp only
      rw [up_self]
      refine x_ob rfl (x_cI (rc_done (I := I) (V' := swV V s d) (H' := H) hL (fun q hq => by rw [up_qf (by omega), up_qf (by omega), f3 q (by omega)]; exact r0.1 q (by omega)) (fun k hk => by rw [up_q (by omega), up_q (by omega), f3 200 (by omega)]; exact r0.2 k hk) (by rw [up_q (by omega), up_q (by omega), f3 200 (by omega)]; exact t0) (fun k y z => by rw [up_q (by omega), up_q (by omega), s3 k y z, r0.1 201 (by omega)]) (Rrw_sw m W3 h1.1) ?_ (fun I' row g1 g2 g3 g4 g5' g6 => x_rI (hQ _ rfl I' row g1 g2 g3 g4 g5' g6))))
      intro k h0 h2
      have em : vm (swV V s d) = vm V := rfl
      rw [up_k (by omega), up_k (by omega), up_k (by omega), up_k (by omega), up_k (by omega), up_k (by omega)]
      exact H3 k h0 (by omega)
    · rw [if_neg h2]
      rw [if_neg h2] at hX
      exact x_brr (by trivial) (x_rI (hX 2 rfl _ 0 (by omega) (Rfr.told.trans Rfr.told) (by rw [up_self, if_pos rfl]; rfl)))
  · rw [if_neg h1]
    rw [if_neg (by omega)] at hX
    exact x_brr (by trivial) (x_rI (hX 1 rfl _ 0 (by omega) Rfr.told up_self))
end Law95
