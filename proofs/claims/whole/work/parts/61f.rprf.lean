theorem on_bits : ∀ v, v < 32 → ∀ w, w < 5 → ((i32 ((v : Nat) : Int) >>> (i32 ((w : Nat) : Int) &&& 31)) &&& 1 = 0 ↔ v / 2 ^ w % 2 = 0) ∧ i32 ((v : Nat) : Int) ||| ((1 : Int32) <<< (i32 ((w : Nat) : Int) &&& 31)) = i32 (((if v / 2 ^ w % 2 = 0 then v + 2 ^ w else v : Nat)) : Int) := by decide +kernel
theorem on_ok {o : Nat → Int} (ho : ∀ i, o i = 0 ∨ o i = 1) {w : Nat} (hw : w < 5) : ((i32 (onB o) >>> (i32 w &&& 31)) &&& 1 = 0 ↔ o w ≠ 1) ∧ (o w ≠ 1 → i32 (onB o) ||| ((1 : Int32) <<< (i32 w &&& 31)) = i32 (onB (onc o w))) := by
  have h0 := ho 0
  have h1 := ho 1
  have h2 := ho 2
  have h3 := ho 3
  have h4 := ho 4
  have b : 0 ≤ onB o ∧ onB o < 32 := by unfold onB; omega
  have k := on_bits (onB o).toNat (by omega) w hw
  rw [Int.toNat_of_nonneg b.1] at k
  rw [k.1, k.2]
  unfold onB onc at *
  rcases (show w = 0 ∨ w = 1 ∨ w = 2 ∨ w = 3 ∨ w = 4 by omega) with rfl | rfl | rfl | rfl | rfl
  · refine ⟨by simp only [Nat.pow_zero]; omega, fun q => ?_⟩
    rw [if_pos (by simp only [Nat.pow_zero]; omega)]; congr 1; simp; omega
  · refine ⟨by omega, fun q => ?_⟩
    rw [if_pos (by omega)]; congr 1; simp; omega
  · refine ⟨by omega, fun q => ?_⟩
    rw [if_pos (by omega)]; congr 1; simp; omega
  · refine ⟨by omega, fun q => ?_⟩
    rw [if_pos (by omega)]; congr 1; simp; omega
  · refine ⟨by omega, fun q => ?_⟩
    rw [if_pos (by omega)]; congr 1; simp; omega
section St61f
variable {e : Nat} {I J : IM} {Q : Post} {V : Vw} {H : Hw} {lo hi a b v p x : Int} {l : List Int} {o : Nat → Int} {t : Tk} {c s : Nat} {w : Nat}
theorem Rhr_s8 {k : Int} (hk : 0 ≤ k ∧ k < 8) {m : Nat} (hH : Rhr I 201 0 m H) : Rhr (up I 201 k v) 201 0 m H := by
  intro j h0 h1
  rw [up_k (by omega), up_k (by omega), up_k (by omega)]
  exact hH j h0 h1
theorem PR.s201 {k : Int} {V' : Vw} {o' : Nat → Int} (h : PR I l V H o t) (hk : 0 ≤ k ∧ k < 8) (hm : vm V' = vm V) (hW : Rrw (up I 201 k v) 201 0 V') : PR (up I 201 k v) l V' H o t := by
  obtain ⟨a1, a2, a3, a4, a5, a6, a7⟩ := h
  exact ⟨⟨by rw [up_q (by omega)]; exact a1.1, fun k hk => by rw [up_q (by omega)]; exact a1.2.1 k hk, a1.2.2⟩, hW, by rw [hm]; exact Rhr_s8 hk a3, by rw [up_q (by omega)]; exact a4, a5.keep fun k _ _ => by rw [up_q (by omega)], by rw [up_q (by omega)]; exact a6, by rw [up_q (by omega)]; exact a7⟩
theorem PR.once {o' : Nat → Int} (h : PR I l V H o t) : PR (up I 200 29 (onB o')) l V H o' t := by
  obtain ⟨a1, a2, a3, a4, a5, a6, a7⟩ := h
  exact ⟨⟨by rw [up_k (by omega)]; exact a1.1, fun k hk => by rw [up_q (by omega)]; exact a1.2.1 k hk, a1.2.2⟩, a2.keep (up_qf (by omega)), a3.keep (up_qf (by omega)), up_self, a5.keep fun k _ _ => by rw [up_k (by omega)], by rw [up_k (by omega)]; exact a6, by rw [up_k (by omega)]; exact a7⟩
theorem Bd.o29 (h : Bd I c s) : Bd (up I 200 29 v) c s := ⟨by rw [up_k (by omega)]; exact h.1, by rw [up_k (by omega)]; exact h.2.1, h.2.2⟩
theorem Rrw_tf (hW : Rrw I 201 0 V) : Rrw (up (up I 201 6 1) 201 7 x) 201 0 (teV V x) := by
  obtain ⟨w0, w1, w2, w3, w4, w5, _, _, _, w9⟩ := hW
  have ev : ∀ i, vS (teV V x) i = if i = 4 then 1 else if i = 5 then x else vS V i := fun _ => rfl
  refine ⟨?_, ?_, fun i a b => ?_, fun h => ?_, fun j a b => ?_, fun j a b => ?_, trivial, trivial, trivial, fun i a b f hf => ?_⟩
  · rw [up_k (by omega), up_k (by omega)]; exact w0
  · rw [up_k (by omega), up_k (by omega)]; exact w1
  · rw [up_k (by omega), ev, up_at]
    by_cases h : i = 4
    · rw [if_pos (by omega), if_pos h]
    · rw [if_neg (by omega), if_neg h, if_neg (by omega)]; exact w2 i a b
  · rw [ev, if_neg (by omega), if_pos rfl, show (0 : Int) + 7 = 7 by omega, up_self]
  · rw [up_k (by omega), up_k (by omega)]; exact w4 j a b
  · rw [up_k (by omega), up_k (by omega)]; exact w5 j a b
  · rw [up_k (by omega), up_k (by omega)]; exact w9 i a b f hf
def rdOnce (l : List Int) (P : Ps) (w : Nat) : Er ⊕ Ps := if w = 4 then rdErr l P else rdSet l P w (decide (w = 2))
theorem sp_X11_readsOnce (hw : w < 5) (hk : tK t = cpK w) (h : PR I l V H o t) (hG : GP l (V, H, o, t)) : Rz SX11_readsOnce [.ref 200] e I J l (rdOnce l (V, H, o, t) w) := by
  intro Q h1 h2
  obtain ⟨gG, gGH, gHB, go, hT⟩ := id hG
  refine x_in (Nat.le_of_ble_eq_true rfl) ?_
  dsimp only [bX11_readsOnce, bX11_readsOnce_0]
  dsimp only at gG gGH gHB go hT
  have k0 : (0 : Int32) = i32 0 := rfl
  have k1 : (1 : Int32) = i32 1 := rfl
  have k2 : (2 : Int32) = i32 2 := rfl
  have k3 : (3 : Int32) = i32 ((3 : Nat) : Int) := rfl
  have k4 : (4 : Int32) = i32 4 := rfl
  have k6 : (6 : Int32) = i32 6 := rfl
  have k7 : (7 : Int32) = i32 7 := rfl
  have cw := cp_rp w (by omega)
  have g25 : I 200 ((25 : Nat) : Int) = (w : Int) := by
    have := (h.2.2.2.2.1.2.2.1 (by rw [hk]; exact cw.1)).2
    rw [hk, cw.2.2.1] at this
    exact this
  have g29 : ∀ I1 : IM, PR I1 l V H o t → I1 200 ((29 : Nat) : Int) = onB o := fun I1 p1 => p1.2.2.2.1
  have T1 := hT.nxt
  obtain ⟨ob1, ob2⟩ := on_ok go hw
  refine x_gI rfl ?_
  rw [g25]
  refine x_gI rfl ?_
  rw [g29 I h]
  have once_0 : rdOnce l (V, H, o, t) w = if o w = 1 then .inl (3, tS t) else if w = 4 then andT (numb l (nxt l t) true (-999) 999) fun x => .inr (teV V x.1, H, onc o w, x.2) else andT (numb l (nxt l t) (decide (w = 2)) (seL w) (seU w)) fun x => .inr (stS V w x.1, H, onc o w, x.2) := by
    unfold rdOnce rdErr rdSet
    dsimp only
    by_cases h4 : w = 4
    · subst h4
      rw [if_pos rfl, if_pos rfl]
    · rw [if_neg h4, if_neg h4]
  rw [once_0] at h1 h2
  refine x_br (fun hb => ?_) (fun hb => ?_)
  · have no := ob1.mp hb
    rw [if_neg no] at h1 h2
    rw [k7, k6, k4, k3, k2, k1, k0]
    refine x_ob rfl (x_cV (fn_needs h.2.2.2.2.2.1 (x_gI rfl ?_)))
    rw [g29 I h, ← k1, ob2 no]
    refine x_pI rfl ?_
    rw [show ((29 : Nat) : Int) = 29 from rfl]
    have p1 : PR (up I 200 29 (onB (onc o w))) l V H (onc o w) t := h.once
    have g1 : FR I (up I 200 29 (onB (onc o w))) := ⟨fun q a b => up_qf a, fun k a => up_k (by omega)⟩
    generalize up I 200 29 (onB (onc o w)) = I1 at *
    refine x_ob rfl (x_cV (fn_goOn p1 hT fun I2 g2 p2 => ?_))
    have g2 := g1.trans g2.fr
    rw [k1]
    -- a setting is stored
    have set : w < 4 → ∀ (sg : Bool), sg = decide (w = 2) → (∀ Q' : Post, (∀ x, numb l (nxt l t) sg (seL w) (seU w) = .inr x → ∀ I' : IM, FR I2 I' → PR I' l V H (onc o w) x.2 → Q' (.inl (some (.int (i32 x.1)))) (ME e I' J)) → (∀ c s : Nat, numb l (nxt l t) sg (seL w) (seU w) = .inl (c, s) → ∀ (I' : IM) (z : Int32), FR I2 I' → Bd I' c s → Q' (.inl (some (.int z))) (ME e I' J)) → True) := fun _ _ _ _ _ _ => trivial
    have after : w < 4 → ∀ (sg : Bool), sg = decide (w = 2) → ∀ x, numb l (nxt l t) sg (seL w) (seU w) = .inr x → ∀ I3 : IM, FR I2 I3 → PR I3 l V H (onc o w) x.2 →
        (gR 11 1 200 fun r => sA r (i32 2 + i32 w) (i32 x.1) <| rV) (ME e I3 J) Q := by
      intro hw4 sg hsg x hx I3 g3 p3
      subst hsg
      rw [if_neg (by omega), hx] at h1
      rw [i32_add]
      refine x_gR rfl rfl (x_sA rfl (by omega) (by omega) (by omega) (x_rV (h1 _ rfl _ ((g2.trans g3).trans ⟨fun q a b => up_qf b, fun k a => up_q (by omega)⟩) ?_)))
      exact p3.s201 (o' := o) (by omega) rfl (Rrw_sS p3.2.1 (by omega) (fun h4 => by omega))
    have nobad : ∀ (sg : Bool), w < 4 → sg = decide (w = 2) → ∀ c s : Nat, numb l (nxt l t) sg (seL w) (seU w) = .inl (c, s) → ∀ I3 : IM, FR I2 I3 → Bd I3 c s → Q (.inl none) (ME e I3 J) := by
      intro sg hw4 hsg c s hx I3 g3 b3
      subst hsg
      rw [if_neg (by omega), hx] at h2
      exact h2 c s rfl I3 (g2.trans g3) b3
    refine x_eq (by omega) (by omega) (fun h4 => ?_) (fun h4 => ?_)
    · obtain rfl : w = 4 := by omega
      rw [if_pos rfl] at h1 h2
      rw [show (-999 : Int32) = i32 (-999) from rfl, show (999 : Int32) = i32 999 from rfl]
      refine x_ob rfl (x_cI (sp_X11_signed (by omega) (by omega) p2 T1 (fun x hx I3 g3 p3 => ?_) (fun c s hx I3 z g3 b3 => ?_)))
      · rw [hx] at h1
        refine x_ob rfl (x_cI (fn_fine p3.2.2.2.2.2.1 (x_eq (by omega) (by omega) (fun h => by omega) (fun _ => x_eq (by omega) (by omega) (fun _ => x_gR rfl rfl (x_sA rfl (by omega) (by omega) (by omega) (x_gR rfl rfl (x_sA rfl (by omega) (by omega) (by omega) (x_rV (h1 _ rfl _ ?_ ?_)))))) (fun h => absurd rfl h)))))
        · exact (g2.trans g3).trans ⟨fun q a b => by rw [up_qf b, up_qf b], fun k a => by rw [up_q (by omega), up_q (by omega)]⟩
        · obtain ⟨a1, a2, a3, a4, a5, a6, a7⟩ := p3
          exact ⟨⟨by rw [up_q (by omega), up_q (by omega)]; exact a1.1, fun k hk => by rw [up_q (by omega), up_q (by omega)]; exact a1.2.1 k hk, a1.2.2⟩, Rrw_tf a2, Rhr_s8 (by omega) (Rhr_s8 (by omega) a3), by rw [up_q (by omega), up_q (by omega)]; exact a4, a5.keep fun k _ _ => by rw [up_q (by omega), up_q (by omega)], by rw [up_q (by omega), up_q (by omega)]; exact a6, by rw [up_q (by omega), up_q (by omega)]; exact a7⟩
      · rw [hx] at h2
        exact x_ob rfl (x_cI (bd_fine b3 (x_eq (by omega) (by omega) (fun _ => x_rV (h2 c s rfl I3 (g2.trans g3) b3)) (fun h => absurd rfl h))))
    · refine x_eq (by omega) (by omega) (fun h2w => ?_) (fun h2w => ?_)
      · rw [show (-99 : Int32) = i32 (-99) from rfl, show (99 : Int32) = i32 99 from rfl]
        have eL : seL w = -99 := by unfold seL; rw [if_neg (by omega), if_pos h2w]
        have eU : seU w = 99 := by unfold seU; rw [if_neg (by omega), if_neg (by omega)]
        have sg2 : true = decide (w = 2) := by symm; exact decide_eq_true (by omega)
        refine x_ob rfl (x_cI (sp_X11_signed (by omega) (by omega) p2 T1 (fun x hx I3 g3 p3 => ?_) (fun c s hx I3 z g3 b3 => ?_)))
        · exact x_ob rfl (x_cI (fn_fine p3.2.2.2.2.2.1 (x_eq (by omega) (by omega) (fun h => by omega) (fun _ => x_eq (by omega) (by omega) (fun h => absurd h h4) (fun _ => after (by omega) true sg2 x (by rw [eL, eU]; exact hx) I3 g3 p3)))))
        · exact x_ob rfl (x_cI (bd_fine b3 (x_eq (by omega) (by omega) (fun _ => x_rV (nobad true (by omega) sg2 c s (by rw [eL, eU]; exact hx) I3 g3 b3)) (fun h => absurd rfl h))))
      · have sg2 : false = decide (w = 2) := by symm; exact decide_eq_false (by omega)
        rw [show (9999 : Int32) = i32 9999 from rfl, show (999 : Int32) = i32 999 from rfl, show (99 : Int32) = i32 99 from rfl]
        -- a number without a sign
        have nb : ∀ lo hi : Int, seL w = lo → seU w = hi → (-1000000 ≤ lo ∧ lo ≤ 1000000) → (-1000000 ≤ hi ∧ hi ≤ 1000000) →
            (ob 11 200 (cI SX11_number [.ref 200, .int (i32 lo), .int (i32 hi)] fun v70 => ob 11 200 (cI SX11_fine [.ref 200] fun v71 => br (v71 = i32 0) rV (br (i32 w = i32 4) (gR 11 1 200 fun r73 => sA r73 (i32 6) (i32 1) <| gR 11 1 200 fun r74 => sA r74 (i32 7) v70 <| rV) (gR 11 1 200 fun r72 => sA r72 (i32 2 + i32 w) v70 <| rV))))) (ME e I2 J) Q := by
          intro lo hi eL eU bl bu
          refine x_ob rfl (x_cI (sp_X11_number bl bu p2 T1 (fun x hx I3 g3 p3 => ?_) (fun c s hx I3 z g3 b3 => ?_)))
          · exact x_ob rfl (x_cI (fn_fine p3.2.2.2.2.2.1 (x_eq (by omega) (by omega) (fun h => by omega) (fun _ => x_eq (by omega) (by omega) (fun h => absurd h h4) (fun _ => after (by omega) false sg2 x (by rw [eL, eU]; exact hx) I3 g3 p3)))))
          · exact x_ob rfl (x_cI (bd_fine b3 (x_eq (by omega) (by omega) (fun _ => x_rV (nobad false (by omega) sg2 c s (by rw [eL, eU]; exact hx) I3 g3 b3)) (fun h => absurd rfl h))))
        refine x_eq (by omega) (by omega) (fun hw0 => x_eq (by omega) (by omega) (fun _ => ?_) (fun h => absurd hw0 h)) (fun hw0 => x_eq (by omega) (by omega) (fun h => absurd h hw0) (fun _ => ?_))
        · exact nb 1 9999 (by unfold seL; rw [if_pos hw0]) (by unfold seU; rw [if_pos hw0]) (by omega) (by omega)
        · refine x_eq (by omega) (by omega) (fun hw1 => ?_) (fun hw1 => ?_)
          · exact nb 0 99 (by unfold seL; rw [if_neg hw0, if_neg h2w]) (by unfold seU; rw [if_neg hw0, if_neg (by omega)]) (by omega) (by omega)
          · exact nb 0 999 (by unfold seL; rw [if_neg hw0, if_neg h2w]) (by unfold seU; rw [if_neg hw0, if_pos (by omega)]) (by omega) (by omega)
  · have yes : o w = 1 := by
      rcases go w with q | q
      · exact absurd (ob1.mpr (by omega)) hb
      · exact q
    rw [if_pos yes] at h2
    rw [k7, k6, k4, k3, k2, k1, k0]
    refine x_ob rfl (x_cV (fn_bad (c := 3) h (by omega) fun I1 g1 b1 => x_gI rfl ?_))
    have sx : ∀ x y : Int32, x ||| y = i32 (x ||| y).toInt := fun x y => (i32_of _).symm
    rw [sx]
    refine x_pI rfl ?_
    have b2 := b1.o29 (v := (i32 (I1 200 ((29 : Nat) : Int)) ||| i32 1 <<< (i32 (w : Nat) &&& 31)).toInt)
    have g2 : FR I (up I1 200 29 (i32 (I1 200 ((29 : Nat) : Int)) ||| i32 1 <<< (i32 (w : Nat) &&& 31)).toInt) := g1.trans ⟨fun q a b => up_qf a, fun k a => up_k (by omega)⟩
    rw [show ((29 : Nat) : Int) = 29 from rfl] at *
    generalize up I1 200 29 (i32 (I1 200 29) ||| i32 1 <<< (i32 (w : Nat) &&& 31)).toInt = I2 at *
    have fin := h2 3 _ rfl I2 g2 b2
    rw [show (-99 : Int32) = i32 (-99) from rfl, show (-999 : Int32) = i32 (-999) from rfl]
    refine x_ob rfl (x_cV (bd_goOn b2 (x_br (fun _ => ?_) (fun _ => x_br (fun _ => ?_) (fun _ => x_br (fun _ => x_br (fun _ => ?_) (fun _ => x_br (fun _ => ?_) (fun _ => ?_))) (fun _ => x_br (fun _ => ?_) (fun _ => x_br (fun _ => ?_) (fun _ => ?_))))))))
    · exact x_ob rfl (x_cI (bd_signed b2 (by omega) fun z => x_ob rfl (x_cI (bd_fine b2 (x_eq (by omega) (by omega) (fun _ => x_rV fin) (fun h => absurd rfl h))))))
    · exact x_ob rfl (x_cI (bd_signed b2 (by omega) fun z => x_ob rfl (x_cI (bd_fine b2 (x_eq (by omega) (by omega) (fun _ => x_rV fin) (fun h => absurd rfl h))))))
    all_goals exact x_ob rfl (x_cI (bd_number b2 fun z => x_ob rfl (x_cI (bd_fine b2 (x_eq (by omega) (by omega) (fun _ => x_rV fin) (fun h => absurd rfl h))))))
end St61f
