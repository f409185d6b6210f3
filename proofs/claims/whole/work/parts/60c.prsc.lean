/-! ===== names found ===== -/
def fnN (V : Vw) (w : List Nat) : Nat → Int
  | 0 => -1
  | k + 1 => if fnN V w k = -1 then (if vN V k = w then (k : Int) else -1) else fnN V w k
theorem fnN_rg (V : Vw) (w : List Nat) : ∀ n : Nat, fnN V w n = -1 ∨ (0 ≤ fnN V w n ∧ fnN V w n < n ∧ vN V (fnN V w n) = w) := by
  intro n
  induction n with
  | zero => exact Or.inl rfl
  | succ n ih =>
    simp only [fnN]
    rcases ih with h | h
    · rw [if_pos h]
      by_cases h2 : vN V n = w
      · rw [if_pos h2]; exact Or.inr ⟨by omega, by omega, h2⟩
      · rw [if_neg h2]; exact Or.inl rfl
    · rw [if_neg (by omega)]; exact Or.inr ⟨h.1, by omega, h.2.2⟩
theorem fnN_no {V : Vw} {w : List Nat} : ∀ {n : Nat}, fnN V w n = -1 → ∀ k : Int, 0 ≤ k → k < n → vN V k ≠ w := by
  intro n
  induction n with
  | zero => intro _ k h0 h1; omega
  | succ n ih =>
    intro h k h0 h1
    simp only [fnN] at h
    by_cases h2 : fnN V w n = -1
    · rw [if_pos h2] at h
      by_cases h3 : vN V n = w
      · rw [if_pos h3] at h; omega
      · by_cases h4 : k = n
        · rw [h4]; exact h3
        · exact ih h2 k h0 (by omega)
    · rw [if_neg h2] at h; exact absurd h h2
theorem nm_eq {B : Nat} (hB : 27 ≤ B) {w w' : List Nat} (h : okName w) (h' : okName w') : enc B w = enc B w' ↔ w = w' :=
  ⟨fun q => enc_inj (B := B) _ _ _ rfl (fun c hc => by have := h.2.2 c hc; omega) (fun c hc => by have := h'.2.2 c hc; omega) q, fun q => by rw [q]⟩
theorem fnd_fnN {V : Vw} {w : List Nat} (hw : okName w) : ∀ n : Nat, (∀ k : Int, 0 ≤ k → k < n → okName (vN V k)) → fnd (nmF V) (enc 32 w) n = fnN V w n := by
  intro n
  induction n with
  | zero => intro _; rfl
  | succ n ih =>
    intro h
    have i := ih (fun k a b => h k a (by omega))
    have e1 : nmF V n = enc 32 w ↔ vN V n = w := nm_eq (B := 32) (by omega) (h n (by omega) (by omega)) hw
    simp only [fnd, fnN]
    rw [i]
    by_cases h1 : fnN V w n = -1
    · by_cases h2 : vN V n = w
      · simp [h1, h2, e1.mpr h2]
      · have : ¬ nmF V n = enc 32 w := fun q => h2 (e1.mp q)
        simp [h1, h2, this]
    · simp [h1]
theorem fnd_none {V : Vw} : ∀ n : Nat, (∀ k : Int, 0 ≤ k → k < n → okName (vN V k)) → fnd (nmF V) (-1) n = -1 := by
  intro n
  induction n with
  | zero => intro _; rfl
  | succ n ih =>
    intro h
    have i := ih (fun k a b => h k a (by omega))
    have b := enc_bd _ (h n (by omega) (by omega))
    simp only [fnd]
    rw [i]
    have : ¬ nmF V n = -1 := by unfold nmF; omega
    simp [this]
noncomputable def fdN (V : Vw) (l : List Int) : Int := if 1 ≤ l.length ∧ l.length ≤ 6 ∧ ru isLt l 0 = l.length then fnN V (nms l 0 l.length) (vm V) else -1
/-- the reference's text -/
def Ts (I : IM) (l : List Int) : Prop := ∀ k : Nat, k < l.length → I 215 k = sb (bt l k)
theorem Ty.ts {I : IM} {l : List Int} (h : Ty I 20 215 (l.map sb)) : Ts I l := by
  intro k hk
  rw [h.2 k (by rw [List.length_map]; exact hk)]
  unfold bt
  rw [if_pos hk]
  simp only [List.getD_eq_getElem?_getD, List.getElem?_map, List.getElem?_eq_getElem hk]
  rfl
theorem isLt_sb {c : Int} (h : 0 ≤ c ∧ c < 256) : isLt (sb c) = isLt c := by
  have : isLt (sb c) = true ↔ isLt c = true := by
    rw [isLt_iff, isLt_iff]; unfold sb; split <;> omega
  cases h1 : isLt (sb c) <;> cases h2 : isLt c <;> simp_all
theorem nms_ok {l : List Int} {p n : Nat} (h1 : 1 ≤ n) (h6 : n ≤ 6) (hz : p + n ≤ ru isLt l p) (hp : p ≤ l.length) : okName (nms l p n) := by
  have L := ru_ok (P := isLt) hp rfl
  exact ⟨by rw [nms_len]; exact h1, by rw [nms_len]; exact h6, nms_mem fun j a b => L.2.2.1 j a (by omega)⟩
section Find60
variable {e : Nat} {I J : IM} {Q : Post} {V : Vw} {H : Hw} {a b c v s : Int} {l : List Int} {w : List Nat}
theorem sp_X11_nameAt (hT : Ts I l) (hB : By l) {p n : Nat} (hp : p + n ≤ l.length)
    (hQ : Q (.inl (some (.int (i32 (if 1 ≤ n ∧ n ≤ 6 ∧ p + n ≤ ru isLt l p then enc 27 (nms l p n) else -1))))) (ME e I J)) : SX11_nameAt [.ref 200, .int (i32 p), .int (i32 n)] (ME e I J) Q := by
  refine x_in (Nat.le_of_ble_eq_true rfl) ?_
  dsimp only [bX11_nameAt, bX11_nameAt_0]
  ((try rw [show (0 : Int32) = i32 (0) from rfl]); (try rw [show (-1 : Int32) = i32 (-1) from rfl]); (try simp only [i32_add, i32_sub, i32_mul, i32_neg]))
  have b900 := hB.1
  have L := ru_ok (P := isLt) (l := l) (p := p) (by omega) rfl
  rw [i32_long (by omega) (by omega), show (1 : Int64) = i64 1 from rfl, show (6 : Int64) = i64 6 from rfl]
  refine x_cI (sp_X11_isIn (by omega) (by omega) (by omega) ?_)
  by_cases hn : 1 ≤ (n : Int) ∧ (n : Int) ≤ 6
  · rw [if_pos hn]
    refine x_eq (by omega) (by omega) (fun h => by omega) (fun _ => ?_)
    refine x_for (min n (ru isLt l p - p)) (fun i av μ => av = [.ref 200, .int (i32 p), .int (i32 n), .int (i32 (enc 27 (nms l p i))), .int (i32 i)] ∧ μ = ME e I J) ?_ ?_ (Nat.zero_le _) ⟨rfl, rfl⟩
    · rintro i av μ hi ⟨rfl, rfl⟩ hJ
      dsimp only [bX11_nameAt, bX11_nameAt_1]
      ((try rw [show (0 : Int32) = i32 (0) from rfl]); (try rw [show (1 : Int32) = i32 (1) from rfl]); (try rw [show (27 : Int32) = i32 (27) from rfl]); (try rw [show (97 : Int32) = i32 (97) from rfl]); (try rw [show (-1 : Int32) = i32 (-1) from rfl]); (try simp only [i32_add, i32_sub, i32_mul, i32_neg]))
      have hl := L.2.2.1 (p + i) (by omega) (by omega)
      have hl2 := isLt_iff.mp hl
      refine x_le (by omega) (by omega) (fun h => by omega) (fun _ => x_gR rfl rfl ?_)
      rw [show (p : Int) + i = ((p + i : Nat) : Int) by omega]
      refine x_aB (n := 900) rfl (Or.inl rfl) (by omega) (by omega) (by omega) ?_
      rw [hT (p + i) (by omega), show sb (bt l (p + i)) = bt l (p + i) by unfold sb; rw [if_pos (by omega)]]
      rw [i32_long (by omega) (by omega), show (97 : Int64) = i64 97 from rfl, show (122 : Int64) = i64 122 from rfl]
      refine x_cI (sp_X11_isIn (by omega) (by omega) (by omega) ?_)
      rw [if_pos hl2]
      refine x_eq (by omega) (by omega) (fun h => by omega) (fun _ => x_lI (hJ _ _ ⟨?_, rfl⟩))
      rw [i32_add, i32_sub, i32_add]
      have : enc 27 (nms l p (i + 1)) = 27 * enc 27 (nms l p i) + bt l (p + i) - 97 + 1 := by
        show enc 27 (nms l p i ++ [(bt l (p + i) - 96).toNat]) = _
        rw [enc_snoc]; omega
      rw [this]
      rfl
    · rintro av μ ⟨rfl, rfl⟩
      dsimp only [bX11_nameAt, bX11_nameAt_1]
      ((try rw [show (0 : Int32) = i32 (0) from rfl]); (try rw [show (1 : Int32) = i32 (1) from rfl]); (try rw [show (27 : Int32) = i32 (27) from rfl]); (try rw [show (97 : Int32) = i32 (97) from rfl]); (try rw [show (-1 : Int32) = i32 (-1) from rfl]); (try simp only [i32_add, i32_sub, i32_mul, i32_neg]))
      by_cases hz : p + n ≤ ru isLt l p
      · rw [if_pos ⟨by omega, by omega, hz⟩] at hQ
        rw [show min n (ru isLt l p - p) = n by omega]
        exact x_le (by omega) (by omega) (fun _ => x_rI hQ) (fun h => by omega)
      · rw [if_neg (fun q => hz q.2.2)] at hQ
        rw [show min n (ru isLt l p - p) = ru isLt l p - p by omega]
        refine x_le (by omega) (by omega) (fun h => by omega) (fun _ => x_gR rfl rfl ?_)
        rw [show (p : Int) + (ru isLt l p - p : Nat) = ((ru isLt l p : Nat) : Int) by omega]
        refine x_aB (n := 900) rfl (Or.inl rfl) (by omega) (by omega) (by omega) ?_
        rw [hT (ru isLt l p) (by omega)]
        have br := bt_rg hB (ru isLt l p)
        have nn : bt l (ru isLt l p) ≠ -1 := by
          unfold bt
          rw [if_pos (by omega)]
          have hk : ru isLt l p < l.length := by omega
          have := hB.2 (l.getD (ru isLt l p) 0) (by rw [List.getD_eq_getElem?_getD, List.getElem?_eq_getElem hk]; exact List.getElem_mem hk)
          omega
        have sr := sb_rg (c := bt l (ru isLt l p)) (by omega)
        rw [i32_long (by omega) (by omega), show (97 : Int64) = i64 97 from rfl, show (122 : Int64) = i64 122 from rfl]
        refine x_cI (sp_X11_isIn (by omega) (by omega) (by omega) ?_)
        have nl : ¬ (97 ≤ sb (bt l (ru isLt l p)) ∧ sb (bt l (ru isLt l p)) ≤ 122) := fun q => by
          have := isLt_iff.mpr q
          rw [isLt_sb (by omega), L.2.2.2] at this
          exact absurd this (by decide)
        rw [if_neg nl]
        exact x_eq (by omega) (by omega) (fun _ => x_rI hQ) (fun h => absurd rfl h)
  · rw [if_neg hn]
    rw [if_neg (fun q => hn (by omega))] at hQ
    exact x_eq (by omega) (by omega) (fun _ => x_rI hQ) (fun h => absurd rfl h)
theorem sp_X11_named (hm : vm V ≤ 12) (hN : ∀ k : Int, 0 ≤ k → k < vm V → okName (vN V k)) (hW : Rrw I 201 0 V) (hw : okName w)
    (hQ : Q (.inl (some (.int (i32 (fnN V w (vm V)))))) (ME e I J)) : SX11_named [.ref 200, .int (i32 (enc 27 w))] (ME e I J) Q := by
  refine x_in (Nat.le_of_ble_eq_true rfl) ?_
  dsimp only [bX11_named, bX11_named_0]
  have wb := enc27_bd hw.2.1 hw.2.2
  refine x_for (vm V) (fun i av μ => av = [.ref 200, .int (i32 (enc 27 w)), .int (i32 i)] ∧ μ = ME e I J ∧ fnN V w i = -1) ?_ ?_ (Nat.zero_le _) ⟨rfl, rfl, rfl⟩
  · rintro i av μ hi ⟨rfl, rfl, hf⟩ hJ
    dsimp only [bX11_named, bX11_named_1]
    ((try rw [show (0 : Int32) = i32 (0) from rfl]); (try rw [show (1 : Int32) = i32 (1) from rfl]); (try rw [show (-1 : Int32) = i32 (-1) from rfl]); (try simp only [i32_add, i32_sub, i32_mul, i32_neg]))
    have ok := hN i (by omega) (by omega)
    have kb := enc27_bd ok.2.1 ok.2.2
    have hs : fnN V w (i + 1) = if vN V i = w then (i : Int) else -1 := by simp only [fnN]; rw [if_pos hf]
    refine x_ob rfl (x_cI (sp_X11_marks hW (x_le (by omega) (by omega) (fun h => by omega) (fun _ => x_ob rfl (x_cI (sp_X11_of (by omega) (by omega) (by omega) (by omega) ?_))))))
    rw [W_nm hW (by omega) (by omega)]
    refine x_eq (by omega) (by omega) (fun h => x_rI ?_) (fun h => hJ _ _ ⟨rfl, rfl, ?_⟩)
    · have hv := (nm_eq (B := 27) (by omega) ok hw).mp h
      rw [if_pos hv] at hs
      have keep : ∀ k, i + 1 ≤ k → fnN V w k = i := by
        intro k hk
        induction k with
        | zero => omega
        | succ k ih =>
          by_cases h2 : i = k
          · subst h2; exact hs
          · simp only [fnN]; rw [ih (by omega), if_neg (by omega)]
      rw [keep (vm V) (by omega)] at hQ
      exact hQ
    · rw [hs, if_neg (fun q => h ((nm_eq (B := 27) (by omega) ok hw).mpr q))]
  · rintro av μ ⟨rfl, rfl, hf⟩
    dsimp only [bX11_named, bX11_named_1]
    ((try rw [show (0 : Int32) = i32 (0) from rfl]); (try rw [show (1 : Int32) = i32 (1) from rfl]); (try rw [show (-1 : Int32) = i32 (-1) from rfl]); (try simp only [i32_add, i32_sub, i32_mul, i32_neg]))
    rw [hf] at hQ
    exact x_ob rfl (x_cI (sp_X11_marks hW (x_le (by omega) (by omega) (fun _ => x_rI hQ) (fun h => by omega))))
theorem rq_find (h : Rn I V H) (hT : Ty I 20 215 (l.map sb)) (hB : By l) : Ri SX11_find [.ref 200] e I J [] (.int (i32 (fdN V l))) := by
  intro Q hQ
  obtain ⟨hG, hGH, hHB, hW, hH⟩ := h
  refine x_in (Nat.le_of_ble_eq_true rfl) ?_
  dsimp only [bX11_find, bX11_find_0]
  ((try rw [show (0 : Int32) = i32 (0) from rfl]); (try rw [show (-1 : Int32) = i32 (-1) from rfl]); (try simp only [i32_add, i32_sub, i32_mul, i32_neg]))
  have b900 := hB.1
  refine x_pI rfl (x_gI rfl ?_)
  rw [show ((0 : Nat) : Int) = 0 from rfl]
  have T0 : Ty (up I 200 0 0) 20 215 (l.map sb) := ⟨by rw [up_k (by omega)]; exact hT.1, fun k hk => by rw [up_q (by omega)]; exact hT.2 k hk⟩
  have f0 : Fi I (up I 200 0 0) := ⟨fun q a b => up_qf a, fun k a b => up_k a⟩
  have t0 : up I 200 0 0 200 0 = 0 := up_self
  have W0 : Rrw (up I 200 0 0) 201 0 V := hW.keep (up_qf (by omega))
  generalize up I 200 0 0 = I0 at *
  have h1 := T0.1
  rw [List.length_map] at h1
  rw [show I0 200 ((20 : Nat) : Int) = (l.length : Int) from h1]
  refine x_ob rfl (x_cI ?_)
  have nn : (0 : Int) = ((0 : Nat) : Int) := rfl
  rw [nn]
  refine sp_X11_nameAt (p := 0) T0.ts hB (by omega) ?_
  have hq := hQ (up I0 200 20 0) ⟨fun q a b => by rw [up_qf a, f0.1 q a b], fun k a b => by rw [up_k b, f0.2 k a b]⟩ (by rw [up_k (by omega)]; exact t0) ⟨by rw [up_self]; rfl, fun k hk => absurd hk (Nat.not_lt_zero k)⟩
  unfold fdN at hq
  have L := ru_ok (P := isLt) (l := l) (p := 0) (by omega) rfl
  by_cases hc : 1 ≤ l.length ∧ l.length ≤ 6 ∧ ru isLt l 0 = l.length
  · rw [if_pos (by omega)]
    rw [if_pos hc] at hq
    have ok := nms_ok (l := l) (p := 0) (n := l.length) hc.1 hc.2.1 (by omega) (by omega)
    have kb := enc27_bd ok.2.1 ok.2.2
    refine x_pI rfl (x_eq (by omega) (by omega) (fun h => by omega) (fun _ => x_ob rfl (x_cI (sp_X11_named hG.1 (fun k a b => gd_nm hG a b) (W0.keep (up_qf (by omega))) ok (x_rI ?_)))))
    exact hq
  · rw [if_neg (by omega)]
    rw [if_neg hc] at hq
    exact x_pI rfl (x_eq (by omega) (by omega) (fun _ => x_rI hq) (fun h => absurd rfl h))
theorem sp_X7_wholeWord (hT : Tx I 1 2 l) (hB : By l)
    (hQ : Q (.inl (some (.int (i32 (if 1 ≤ l.length ∧ l.length ≤ 6 ∧ ru isLt l 0 = l.length then enc 32 (nms l 0 l.length) else -1))))) (ME e I J)) : SX7_wholeWord [.ref 1] (ME e I J) Q := by
  refine x_in (Nat.le_of_ble_eq_true rfl) ?_
  dsimp only [bX7_wholeWord, bX7_wholeWord_0]
  ((try rw [show (0 : Int32) = i32 (0) from rfl]); (try rw [show (6 : Int32) = i32 (6) from rfl]); (try rw [show (-1 : Int32) = i32 (-1) from rfl]); (try simp only [i32_add, i32_sub, i32_mul, i32_neg]))
  have b900 := hB.1
  have L := ru_ok (P := isLt) (l := l) (p := 0) (by omega) rfl
  have h1 : I 1 ((1 : Nat) : Int) = (l.length : Int) := hT.1
  refine x_gI rfl ?_
  rw [h1]
  refine x_eq (by omega) (by omega) (fun h => x_rI (by rwa [if_neg (by omega)] at hQ)) (fun h => x_gI rfl ?_)
  rw [h1]
  refine x_le (by omega) (by omega) (fun h6 => ?_) (fun h6 => x_rI (by rwa [if_neg (by omega)] at hQ))
  refine x_for (ru isLt l 0) (fun i av μ => av = [.ref 1, .int (i32 (enc 32 (nms l 0 i))), .int (i32 i)] ∧ μ = ME e I J) ?_ ?_ (Nat.zero_le _) ⟨rfl, rfl⟩
  · rintro i av μ hi ⟨rfl, rfl⟩ hJ
    dsimp only [bX7_wholeWord, bX7_wholeWord_1]
    ((try rw [show (0 : Int32) = i32 (0) from rfl]); (try rw [show (1 : Int32) = i32 (1) from rfl]); (try rw [show (-1 : Int32) = i32 (-1) from rfl]); (try simp only [i32_add, i32_sub, i32_mul, i32_neg]))
    have hl := L.2.2.1 i (by omega) (by omega)
    have hl2 := isLt_iff.mp hl
    refine x_gI rfl ?_
    rw [h1]
    refine x_le (by omega) (by omega) (fun h => by omega) (fun _ => x_ob rfl (x_cI (sp_X7_byteAt (n := 900) rfl rfl rfl hT b900 (by omega) ⟨by omega, by omega⟩ ?_)))
    rw [bt_ob (by omega)]
    refine x_cI (sp_X10_isLetter (by omega) ?_)
    rw [if_pos hl]
    refine x_eq (by omega) (by omega) (fun h => by omega) (fun _ => x_cI (sp_X10_withLetter hl2 (hJ _ _ ⟨?_, rfl⟩)))
    have : enc 32 (nms l 0 (i + 1)) = 32 * enc 32 (nms l 0 i) + (bt l i - 96) := by
      show enc 32 (nms l 0 i ++ [(bt l (0 + i) - 96).toNat]) = _
      rw [enc_snoc, Nat.zero_add]; omega
    rw [this]
    rfl
  · rintro av μ ⟨rfl, rfl⟩
    dsimp only [bX7_wholeWord, bX7_wholeWord_1]
    ((try rw [show (0 : Int32) = i32 (0) from rfl]); (try rw [show (1 : Int32) = i32 (1) from rfl]); (try rw [show (-1 : Int32) = i32 (-1) from rfl]); (try simp only [i32_add, i32_sub, i32_mul, i32_neg]))
    refine x_gI rfl ?_
    rw [h1]
    by_cases hz : ru isLt l 0 = l.length
    · rw [if_pos (by omega)] at hQ
      rw [hz]
      exact x_le (by omega) (by omega) (fun _ => x_rI hQ) (fun h => by omega)
    · rw [if_neg (by omega)] at hQ
      have br := bt_rg hB (ru isLt l 0)
      refine x_le (by omega) (by omega) (fun h => by omega) (fun _ => x_ob rfl (x_cI (sp_X7_byteAt (n := 900) rfl rfl rfl hT b900 (by omega) ⟨by omega, by omega⟩ ?_)))
      rw [bt_ob (by omega)]
      refine x_cI (sp_X10_isLetter (by omega) ?_)
      rw [if_neg (by rw [L.2.2.2]; decide)]
      exact x_eq (by omega) (by omega) (fun _ => x_rI hQ) (fun h => absurd rfl h)
theorem wl5 (e : Nat) : wlP e 5 := ⟨rfl, rfl, rfl, rfl, rfl⟩
theorem cq_find (h : Cn I V H) (hT : Tx I 1 2 l) (hB : By l) : Ci SX10_find [.ref 0] e I J [] (.int (i32 (fdN V l))) := by
  intro Q hQ
  obtain ⟨hG, hGH, hHB, hR, hH, hW, hd⟩ := h
  refine x_in (Nat.le_of_ble_eq_true rfl) ?_
  dsimp only [bX10_find, bX10_find_0]
  ((try rw [show (0 : Int32) = i32 (0) from rfl]); (try simp only [i32_add, i32_sub, i32_mul, i32_neg]))
  unfold fdN at hQ
  refine x_gR rfl rfl (x_gR rfl rfl (x_ob rfl (x_cI (sp_X7_wholeWord hT hB ?_))))
  have hq := hQ (up I 1 1 0) (fun q a b => up_qf a) Tx0
  by_cases hc : 1 ≤ l.length ∧ l.length ≤ 6 ∧ ru isLt l 0 = l.length
  · rw [if_pos hc]
    rw [if_pos hc] at hq
    have ok := nms_ok (l := l) (p := 0) (n := l.length) hc.1 hc.2.1 (by omega) (by omega)
    have kb := enc_bd _ ok
    refine x_ob rfl (x_cI (sp_X9_named (wl5 e) hG.1 (fun k a b => gd_nm hG a b) hW (by omega) (x_gR rfl rfl (x_pI rfl ?_))))
    rw [fnd_fnN ok _ (fun k a b => gd_nm hG a b)]
    exact x_rI hq
  · rw [if_neg hc]
    rw [if_neg hc] at hq
    refine x_ob rfl (x_cI (sp_X9_named (wl5 e) hG.1 (fun k a b => gd_nm hG a b) hW (by omega) (x_gR rfl rfl (x_pI rfl ?_))))
    rw [fnd_none _ (fun k a b => gd_nm hG a b)]
    exact x_rI hq
theorem cq_errorCode (hd : dg0 I) (he : e ∈ stLs) : Cq SX10_errorCode [.ref 0] e I J (.inl (I 0 13)) := by
  intro Q hQ
  refine x_in (Nat.le_of_ble_eq_true rfl) ?_
  dsimp only [bX10_errorCode, bX10_errorCode_0]
  exact x_gI rfl (x_rI (hQ I e (Cf.refl hd) he))
theorem cq_errorOffset (hd : dg0 I) (he : e ∈ stLs) : Cq SX10_errorOffset [.ref 0] e I J (.inl (I 0 14)) := by
  intro Q hQ
  refine x_in (Nat.le_of_ble_eq_true rfl) ?_
  dsimp only [bX10_errorOffset, bX10_errorOffset_0]
  exact x_gI rfl (x_rI (hQ I e (Cf.refl hd) he))
theorem rq_errorCode : Rq SX11_errorCode [.ref 200] e I J (I 200 27) 0 := by
  intro Q hQ
  refine x_in (Nat.le_of_ble_eq_true rfl) ?_
  dsimp only [bX11_errorCode, bX11_errorCode_0]
  ((try rw [show (0 : Int32) = i32 (0) from rfl]); (try simp only [i32_add, i32_sub, i32_mul, i32_neg]))
  refine x_pI rfl (x_gI rfl (x_rI ?_))
  rw [up_k (by omega), show ((0 : Nat) : Int) = 0 from rfl]
  exact hQ _ Rfr.told up_self
theorem rq_errorOffset : Rq SX11_errorOffset [.ref 200] e I J (I 200 28) 0 := by
  intro Q hQ
  refine x_in (Nat.le_of_ble_eq_true rfl) ?_
  dsimp only [bX11_errorOffset, bX11_errorOffset_0]
  ((try rw [show (0 : Int32) = i32 (0) from rfl]); (try simp only [i32_add, i32_sub, i32_mul, i32_neg]))
  refine x_pI rfl (x_gI rfl (x_rI ?_))
  rw [up_k (by omega), show ((0 : Nat) : Int) = 0 from rfl]
  exact hQ _ Rfr.told up_self
end Find60
