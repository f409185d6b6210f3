/-! ===== the reference's statements ===== -/
def Rz (S : ST) (as : List Value) (e : Nat) (I J : IM) (l : List Int) (r : Er ⊕ Ps) : Prop := ∀ Q : Post, (∀ P, r = .inr P → ∀ I' : IM, FR I I' → PR I' l P.1 P.2.1 P.2.2.1 P.2.2.2 → Q (.inl none) (ME e I' J)) → (∀ c s : Nat, r = .inl (c, s) → ∀ I' : IM, FR I I' → Bd I' c s → Q (.inl none) (ME e I' J)) → S as (ME e I J) Q
section St61
variable {e : Nat} {I J : IM} {Q : Post} {V : Vw} {H : Hw} {lo hi a b v p : Int} {l : List Int} {o : Nat → Int} {t : Tk} {c s : Nat} {w : List Nat}
theorem Rrw_adM {I' : IM} (hm : vm V < 12) (hW : Rrw I 201 0 V) (h0 : I' 201 0 = (vm V : Int) + 1) (hk : ∀ k : Int, k ≠ 0 → (k < 8 + 5 * (vm V : Int) ∨ 8 + 5 * (vm V : Int) + 4 < k) → I' 201 k = I 201 k)
    (e0 : I' 201 (8 + 5 * (vm V : Int) + 0) = enc 27 w) (e1 : I' 201 (8 + 5 * (vm V : Int) + 1) = p) : Rrw I' 201 0 (adM V w p) := by
  obtain ⟨w0, w1, w2, w3, w4, w5, _, _, _, w9⟩ := hW
  have em : vm (adM V w p) = vm V + 1 := rfl
  have en : vn (adM V w p) = vn V := rfl
  have eN : ∀ k, vN (adM V w p) k = if k = vm V then w else vN V k := fun _ => rfl
  have eK : ∀ k, vK (adM V w p) 0 k = if k = vm V then p else vK V 0 k := fun _ => rfl
  refine ⟨by rw [h0, em]; omega, ?_, fun i i0 i1 => ?_, fun h => ?_, fun k k0 k1 => ?_, fun k k0 k1 => ?_, trivial, trivial, trivial, fun s s0 s1 f hf => ?_⟩
  · rw [hk _ (by omega) (by omega)]; exact w1
  · rw [hk _ (by omega) (by omega)]; exact w2 i i0 i1
  · rw [hk _ (by omega) (by omega)]; exact w3 h
  · rw [em] at k1
    rw [eN]
    by_cases h : k = vm V
    · rw [if_pos h, show (0 : Int) + 8 + 5 * k = 8 + 5 * (vm V : Int) + 0 by omega]; exact e0
    · rw [if_neg h, hk _ (by omega) (by omega)]; exact w4 k k0 (by omega)
  · rw [em] at k1
    rw [eK]
    by_cases h : k = vm V
    · rw [if_pos h, show (0 : Int) + 9 + 5 * k = 8 + 5 * (vm V : Int) + 1 by omega]; exact e1
    · rw [if_neg h, hk _ (by omega) (by omega)]; exact w5 k k0 (by omega)
  · rw [hk _ (by omega) (by omega)]; exact w9 s s0 s1 f hf
theorem Rhr_adM {I' : IM} {H' : Hw} {m : Nat} (hH : Rhr I 201 0 m H) (hk : ∀ k : Int, k ≠ 0 → (k < 8 + 5 * (m : Int) ∨ 8 + 5 * (m : Int) + 4 < k) → I' 201 k = I 201 k)
    (hold : ∀ k : Int, 0 ≤ k → k < m → hb H' k = hb H k ∧ hh H' k = hh H k ∧ hv H' k = hv H k)
    (e2 : I' 201 (8 + 5 * (m : Int) + 2) = hb H' m) (e3 : I' 201 (8 + 5 * (m : Int) + 3) = hh H' m) (e4 : hh H' m = 1 → I' 201 (8 + 5 * (m : Int) + 4) = hv H' m) : Rhr I' 201 0 (m + 1) H' := by
  intro k h0 h1
  by_cases h : k = m
  · rw [h]
    rw [show (0 : Int) + 8 + 5 * (m : Int) + 2 = 8 + 5 * (m : Int) + 2 by omega, show (0 : Int) + 8 + 5 * (m : Int) + 3 = 8 + 5 * (m : Int) + 3 by omega, show (0 : Int) + 8 + 5 * (m : Int) + 4 = 8 + 5 * (m : Int) + 4 by omega]
    exact ⟨e2, e3, e4⟩
  · have t := hH k h0 (by omega)
    have u := hold k h0 (by omega)
    rw [hk _ (by omega) (by omega), hk _ (by omega) (by omega), hk _ (by omega) (by omega), u.1, u.2.1, u.2.2]
    exact t
theorem sp_X11_readsMark (h : PR I l V H o t) (hG : GP l (V, H, o, t)) : Rz SX11_readsMark [.ref 200] e I J l (rdMark l (V, H, o, t)) := by
  intro Q h1 h2
  obtain ⟨gG, gGH, gHB, go, hT⟩ := hG
  refine x_in (Nat.le_of_ble_eq_true rfl) ?_
  dsimp only [bX11_readsMark, bX11_readsMark_0]
  unfold rdMark at h1 h2
  dsimp only at h1 h2 gG gGH gHB go hT
  have k0 : (0 : Int32) = i32 0 := rfl
  have k1 : (1 : Int32) = i32 1 := rfl
  have k2 : (2 : Int32) = i32 2 := rfl
  have k3 : (3 : Int32) = i32 ((3 : Nat) : Int) := rfl
  have k4 : (4 : Int32) = i32 4 := rfl
  have k3' : (3 : Int32) = i32 3 := rfl
  have k5 : (5 : Int32) = i32 ((5 : Nat) : Int) := rfl
  have k7 : (7 : Int32) = i32 ((7 : Nat) : Int) := rfl
  have k12 : (12 : Int32) = i32 12 := rfl
  have km1 : (-1 : Int32) = i32 (-1) := rfl
  have kb : (-99999 : Int32) = i32 (-99999) := rfl
  have ka : (99999 : Int32) = i32 99999 := rfl
  rw [km1, k12, k5, k3, k1, k0]
  have m12 := gG.1
  have T1 := hT.nxt
  have T2 := T1.nxt
  have T3 := T2.nxt
  have f1 := T1.f
  have f2 := T2.f
  have f3 := T3.f
  have fine := h.2.2.2.2.2.1
  refine x_ob rfl (x_cI (sp_X11_marks h.2.1 (x_le (by omega) (by omega) (fun c1 => ?_) (fun c1 => ?_))))
  · rw [if_neg (by omega)] at h2
    refine x_ob rfl (x_cV (fn_bad (c := 5) h (by omega) fun I1 g1 b1 => x_ob rfl (x_cV (bd_goOn b1 (x_ob rfl (x_cI (bd_nameHere b1 (x_ob rfl (x_cI (bd_fine b1 ?_))))))))))
    exact x_eq (by omega) (by omega) (fun _ => bd_rm1 b1 (h2 5 _ rfl I1 g1 b1)) (fun h => absurd rfl h)
  · rw [if_pos (by omega)] at h1 h2
    refine x_ob rfl (x_cV (fn_needs fine (x_ob rfl (x_cV (fn_goOn h hT fun I1 g1 p1 => ?_)))))
    refine x_ob rfl (x_cI (sp_X11_nameHere p1 T1 (fun c2 => ?_) (fun c2 I2 g2 b2 => ?_)))
    · rw [if_pos c2] at h1 h2
      have ok := f1.2.2.2.2.1 c2
      have fr := fnN_rg V (tN (nxt l t)) (vm V)
      refine x_ob rfl (x_cI (fn_fine p1.2.2.2.2.2.1 (x_eq (by omega) (by omega) (fun h => by omega) (fun _ => ?_))))
      refine x_ob rfl (x_cI (sp_X11_named gG.1 (fun k a b => gd_nm gG a b) p1.2.1 ok (x_eq (by omega) (by omega) (fun c3 => ?_) (fun c3 => ?_))))
      · rw [if_pos c3] at h1 h2
        refine x_ob rfl (x_cV (fn_needs p1.2.2.2.2.2.1 (fx_in ?_)))
        dsimp only [bX11_readsMark, bX11_readsMark_1]
        rw [ka, k7, k3, k1, k0]
        refine x_ob rfl (x_cV (fn_goOn p1 T1 fun I2 g2 p2 => ?_))
        have g2 := g1.fr.trans g2.fr
        refine x_ob rfl (x_cI (sp_X11_numberHere (by omega) (by omega) p2 T2 (fun c4 _ _ => ?_) (fun c hc I3 z g3 b3 => ?_)))
        · rw [if_pos c4] at h1 h2
          have tv := f2.2.2.2.2.2 c4
          refine x_ob rfl (x_cI (fn_fine p2.2.2.2.2.2.1 (x_eq (by omega) (by omega) (fun h => by omega) (fun _ => ?_))))
          refine x_ob rfl (x_cI (sp_X11_isPlaceOf gG p2.2.1 (by omega) ?_))
          by_cases c5 : fnd (vK V 0) (tV (nxt l (nxt l t))) (vm V) = -1
          · rw [if_pos c5] at h1 h2
            rw [if_pos c5]
            refine x_eq (by omega) (by omega) (fun _ => ?_) (fun h => absurd rfl h)
            refine x_ob rfl (x_cV (fn_needs p2.2.2.2.2.2.1 (x_ob rfl (x_cV (fn_goOn p2 T2 fun I3 g3 p3 => ?_)))))
            have g3 := g2.trans g3.fr
            -- the mark is laid
            have lay : ∀ (I4 : IM) (t4 : Tk) (bn hh' : Int) (H' : Hw), (bn = 0 ∨ bn = 1) → FR I I4 → PR I4 l V H o t4 → hb H' (vm V) = bn → hh H' (vm V) = bn → (bn = 1 → hv H' (vm V) = hh') → (∀ k : Int, 0 ≤ k → k < vm V → hb H' k = hb H k ∧ hh H' k = hh H k ∧ hv H' k = hv H k) →
                (∀ I' : IM, FR I I' → PR I' l (adM V (tN (nxt l t)) (tV (nxt l (nxt l t)))) H' o t4 → Q (.inl none) (ME e I' J)) →
                Q (.inl none) (ME e (up (up (up (up (up (up I4 201 (8 + 5 * (vm V : Int) + 0) (enc 27 (tN (nxt l t)))) 201 (8 + 5 * (vm V : Int) + 1) (tV (nxt l (nxt l t)))) 201 (8 + 5 * (vm V : Int) + 2) bn) 201 (8 + 5 * (vm V : Int) + 3) bn) 201 (8 + 5 * (vm V : Int) + 4) hh') 201 0 ((vm V : Int) + 1)) J) := by
              intro I4 t4 bn hh' H' b01 g4 p4 v2 v3 v4 old hq
              refine hq _ ?_ ?_
              · exact g4.trans ⟨fun q a b => by rw [up_qf b, up_qf b, up_qf b, up_qf b, up_qf b, up_qf b], fun k a => by rw [up_q (by omega), up_q (by omega), up_q (by omega), up_q (by omega), up_q (by omega), up_q (by omega)]⟩
              · obtain ⟨a1, a2, a3, a4, a5, a6, a7⟩ := p4
                have fq : ∀ q, q ≠ 201 → (up (up (up (up (up (up I4 201 (8 + 5 * (vm V : Int) + 0) (enc 27 (tN (nxt l t)))) 201 (8 + 5 * (vm V : Int) + 1) (tV (nxt l (nxt l t)))) 201 (8 + 5 * (vm V : Int) + 2) bn) 201 (8 + 5 * (vm V : Int) + 3) bn) 201 (8 + 5 * (vm V : Int) + 4) hh') 201 0 ((vm V : Int) + 1)) q = I4 q := fun q a => by rw [up_qf a, up_qf a, up_qf a, up_qf a, up_qf a, up_qf a]
                have hk : ∀ k : Int, k ≠ 0 → (k < 8 + 5 * (vm V : Int) ∨ 8 + 5 * (vm V : Int) + 4 < k) → (up (up (up (up (up (up I4 201 (8 + 5 * (vm V : Int) + 0) (enc 27 (tN (nxt l t)))) 201 (8 + 5 * (vm V : Int) + 1) (tV (nxt l (nxt l t)))) 201 (8 + 5 * (vm V : Int) + 2) bn) 201 (8 + 5 * (vm V : Int) + 3) bn) 201 (8 + 5 * (vm V : Int) + 4) hh') 201 0 ((vm V : Int) + 1)) 201 k = I4 201 k := fun k a b => by rw [up_k a, up_k (by omega), up_k (by omega), up_k (by omega), up_k (by omega), up_k (by omega)]
                refine ⟨⟨by rw [fq 200 (by omega)]; exact a1.1, fun k hk => by rw [fq 215 (by omega)]; exact a1.2.1 k hk, a1.2.2⟩, Rrw_adM (by omega) a2 up_self hk ?_ ?_, Rhr_adM a3 hk old ?_ ?_ ?_, by rw [fq 200 (by omega)]; exact a4, a5.keep fun k _ _ => by rw [fq 200 (by omega)], by rw [fq 200 (by omega)]; exact a6, by rw [fq 200 (by omega)]; exact a7⟩
                · rw [up_k (by omega), up_k (by omega), up_k (by omega), up_k (by omega), up_k (by omega), up_self]
                · rw [up_k (by omega), up_k (by omega), up_k (by omega), up_k (by omega), up_self]
                · rw [up_k (by omega), up_k (by omega), up_k (by omega), up_self]; exact v2.symm
                · rw [up_k (by omega), up_k (by omega), up_self]; exact v3.symm
                · intro hb1; rw [up_k (by omega), up_self]; exact (v4 (by omega)).symm
            refine x_ob rfl (x_cI (fn_isWord (w := 7) (by omega) p3 T3 ?_))
            rw [show cpK 7 = 1 from rfl]
            by_cases c6 : tK (nxt l (nxt l (nxt l t))) = 1
            · rw [if_pos c6] at h1 h2
              rw [if_pos c6]
              refine x_eq (by omega) (by omega) (fun h => by omega) (fun _ => x_ob rfl (x_cV (fn_goOn p3 T3 fun I4 g4 p4 => fx_in ?_)))
              have g4 := g3.trans g4.fr
              dsimp only [bX11_readsMark, bX11_readsMark_2]
              rw [kb, ka, k4, k3', k2, k1, k0]
              refine x_eq (by omega) (by omega) (fun h => by omega) (fun _ => ?_)
              refine x_ob rfl (x_cI (sp_X11_signed (by omega) (by omega) p4 T3.nxt (fun x hx I5 g5 p5 => ?_) (fun c s hx I5 z g5 b5 => ?_)))
              · rw [hx, andT_r] at h1
                refine x_ob rfl (x_cI (fn_fine p5.2.2.2.2.2.1 (x_eq (by omega) (by omega) (fun h => by omega) (fun _ => x_ob rfl (x_cI (sp_X11_marks p5.2.1 ?_))))))
                have L := lay I5 x.2 1 x.1 (bnH H (vm V) x.1) (by omega) (g4.trans g5) p5 (by show (if (vm V : Int) = vm V then (1 : Int) else hb H (vm V)) = 1; rw [if_pos rfl]) (by show (if (vm V : Int) = vm V then (1 : Int) else hh H (vm V)) = 1; rw [if_pos rfl]) (fun _ => by show (if (vm V : Int) = vm V then x.1 else hv H (vm V)) = x.1; rw [if_pos rfl]) (fun k a b => by
                  have ne : ¬ k = vm V := by omega
                  exact ⟨by show (if k = vm V then (1 : Int) else hb H k) = _; rw [if_neg ne], by show (if k = vm V then (1 : Int) else hh H k) = _; rw [if_neg ne], by show (if k = vm V then x.1 else hv H k) = _; rw [if_neg ne]⟩) (fun I' f' P' => h1 _ rfl I' f' P')
                refine x_ob rfl (x_cV (sp_X11_lays (by omega) (by omega) (by omega) (by omega) (x_ob rfl (x_cV (sp_X11_lays (by omega) (by omega) (by omega) (by omega) ?_)))))
                refine x_eq (by omega) (by omega) (fun h => by omega) (fun _ => x_ob rfl (x_cV (sp_X11_lays (by omega) (by omega) (by omega) (by omega) ?_)))
                refine x_eq (by omega) (by omega) (fun h => by omega) (fun _ => x_ob rfl (x_cV (sp_X11_lays (by omega) (by omega) (by omega) (by omega) (x_ob rfl (x_cV (sp_X11_lays (by omega) (by omega) (by omega) (by omega) ?_))))))
                rw [i32_add]
                exact x_gR rfl rfl (x_sA rfl (by omega) (by omega) (by omega) (x_rV L))
              · rw [hx] at h2
                exact x_ob rfl (x_cI (bd_fine b5 (x_eq (by omega) (by omega) (fun _ => x_rV (h2 c s rfl I5 (g4.trans g5) b5)) (fun h => absurd rfl h))))
            · rw [if_neg c6] at h1 h2
              rw [if_neg c6]
              refine x_eq (by omega) (by omega) (fun _ => fx_in ?_) (fun h => absurd rfl h)
              dsimp only [bX11_readsMark, bX11_readsMark_2]
              rw [kb, ka, k4, k3', k2, k1, k0]
              refine x_eq (by omega) (by omega) (fun _ => ?_) (fun h => absurd rfl h)
              refine x_ob rfl (x_cI (fn_fine p3.2.2.2.2.2.1 (x_eq (by omega) (by omega) (fun h => by omega) (fun _ => x_ob rfl (x_cI (sp_X11_marks p3.2.1 ?_))))))
              have gm := gGH (vm V) (by omega) (by omega)
              have L := lay I3 _ 0 0 H (by omega) g3 p3 (gm.2.2.2 (by omega)).1 (gm.2.2.2 (by omega)).2 (fun h => by omega) (fun k a b => ⟨rfl, rfl, rfl⟩) (fun I' f' P' => h1 _ rfl I' f' P')
              refine x_ob rfl (x_cV (sp_X11_lays (by omega) (by omega) (by omega) (by omega) (x_ob rfl (x_cV (sp_X11_lays (by omega) (by omega) (by omega) (by omega) ?_)))))
              refine x_eq (by omega) (by omega) (fun _ => x_ob rfl (x_cV (sp_X11_lays (by omega) (by omega) (by omega) (by omega) ?_))) (fun h => absurd rfl h)
              refine x_eq (by omega) (by omega) (fun _ => x_ob rfl (x_cV (sp_X11_lays (by omega) (by omega) (by omega) (by omega) (x_ob rfl (x_cV (sp_X11_lays (by omega) (by omega) (by omega) (by omega) ?_)))))) (fun h => absurd rfl h)
              rw [i32_add]
              exact x_gR rfl rfl (x_sA rfl (by omega) (by omega) (by omega) (x_rV L))
          · rw [if_neg c5] at h2
            rw [if_neg c5]
            refine x_eq (by omega) (by omega) (fun h => by omega) (fun _ => ?_)
            refine x_ob rfl (x_cV (fn_bad (c := 3) p2 (by omega) fun I3 g3 b3 => x_ob rfl (x_cV (bd_goOn b3 (x_ob rfl (x_cI (bd_isWord b3 ?_)))))))
            exact x_eq (by omega) (by omega) (fun _ => bd_rm2 b3 (h2 3 _ rfl I3 (g2.trans g3) b3)) (fun h => absurd rfl h)
        · have hc1 : c = 1 ∧ tK (nxt l (nxt l t)) ≠ 12 := by
            rcases hc with ⟨a, b⟩ | ⟨a, b, _⟩
            · exact ⟨b, a⟩
            · have := f2.2.2.2.2.2 a; omega
          rw [if_neg hc1.2] at h2
          rw [hc1.1] at b3
          refine x_ob rfl (x_cI (bd_fine b3 (x_eq (by omega) (by omega) (fun _ => ?_) (fun h => absurd rfl h))))
          refine x_ob rfl (x_cV (bd_goOn b3 (x_ob rfl (x_cI (bd_isWord b3 ?_)))))
          exact x_eq (by omega) (by omega) (fun _ => bd_rm2 b3 (h2 1 _ rfl I3 (g2.trans g3) b3)) (fun h => absurd rfl h)
      · rw [if_neg c3] at h2
        exact x_ob rfl (x_cV (fn_bad (c := 3) p1 (by omega) fun I2 g2 b2 => bd_rm1 b2 (h2 3 _ rfl I2 (g1.fr.trans g2) b2)))
    · rw [if_neg c2] at h2
      refine x_ob rfl (x_cI (bd_fine b2 (x_eq (by omega) (by omega) (fun _ => bd_rm1 b2 (h2 1 _ rfl I2 (g1.fr.trans g2) b2)) (fun h => absurd rfl h))))
end St61
