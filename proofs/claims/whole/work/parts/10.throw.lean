section Ends9
variable {Γ : CT} {own : String} {cc : ByteArray} {nL cn sn pc : Nat} {ret : Option FieldType} {rm : Room} {loc : List (Nat × Value)} {stk : List Value} {f : Sem}
/-- the words of a throw -/
def thW (own : String) (ik ic : Nat) (cls : String) : Bool := (Cond.classLink own ik cls :: Cond.initialized cls :: vx_atS own ic cls ["java/lang/RuntimeException", "java/lang/Exception"]).all fun w => decide (w ∈ lw_tbl) && (goodWord w || nw_ok w) && vx_ot w
theorem thW_ok {own : String} {ik ic : Nat} {cls : String} (h : thW own ik ic cls = true) : ∀ w ∈ Cond.classLink own ik cls :: Cond.initialized cls :: vx_atS own ic cls ["java/lang/RuntimeException", "java/lang/Exception"], w ∈ lw_tbl ∧ (goodWord w = true ∨ nw_ok w = true) ∧ vx_ot w = true := by
  intro w hw
  have h1 := List.all_eq_true.mp h w hw
  simp only [Bool.and_eq_true, Bool.or_eq_true, decide_eq_true_eq] at h1
  exact ⟨h1.1.1, h1.1.2, h1.2⟩
theorem thW_use (hC : Ctx Γ own cc nL ret rm) {w : Cond} (h1 : w ∈ lw_tbl) (h2 : goodWord w = true ∨ nw_ok w = true) : w.before (kAr Γ) (kS Γ) = true := by
  rcases h2 with h | h
  · exact hC.2.2.2.2.2.1 _ (gw_in h1 h)
  · exact va_Nw.use (nw_onT h) (hC.2.2.2.2.2.2.2.2.2.2.1.2.2.2.2.2.2.2.1 w h1 h)
theorem q_throw (hC : Ctx Γ own cc nL ret rm) {ik is ic E i : Nat} {tx : String} (hE : E < 4) (hE0 : 0 < E) (hw : thW own ik ic (exN E) = true) (hs : (own, is, tx, i) ∈ scTab) (hnt : ∀ x ∈ (kC Γ).exceptionTable.toList, False)
    (d0 : decode cc pc = .ok (.new ik, 3)) (d3 : decode cc (pc + 3) = .ok (.dup, 1)) (d4 : decode cc (pc + 4) = .ok (.ldc is, 2)) (d6 : decode cc (pc + 6) = .ok (.invokespecial ic, 3)) (d9 : decode cc (pc + 9) = .ok (.athrow, 1))
    (h1 : cn + 1 ≤ rm.cells) (h2 : sn + 6 ≤ rm.slots) (hr : 5 < rm.frames ∧ 100 ≤ rm.locals) : Cor Γ nL cn sn pc loc [] (thr E) := by
  intro Q μ H locs ls ⟨hn, hq⟩ hH hL
  have hW := thW_ok hw
  have hst := hC.2.2.2.2.2.2.2.2.2.2.1
  have hbR := hC.2.2.2.2.2.2.2.2.2.2.2.1
  refine vx_throwS (names := ["java/lang/RuntimeException", "java/lang/Exception"]) (text := tx) hC.1 hC.2.1 hC.2.2.2.2.2.2.2.1 hC.2.2.2.2.1 (cls := exN E) ?_ (by decide +kernel) (thW_use hC (hW _ List.mem_cons_self).1 (hW _ List.mem_cons_self).2.1) (thW_use hC (hW _ (List.mem_cons_of_mem _ List.mem_cons_self)).1 (hW _ (List.mem_cons_of_mem _ List.mem_cons_self)).2.1) (hst.2.2.2.2.1 _ hs)
    (fun w h => thW_use hC (hW w (List.mem_cons_of_mem _ (List.mem_cons_of_mem _ h))).1 (hW w (List.mem_cons_of_mem _ (List.mem_cons_of_mem _ h))).2.1) (fun w h => (hW w h).2.2) hst.2.1 hst.2.2.1 hH.2.2.1 (hL.1.trans hC.2.2.1.symm) d0 d3 d4 d6 d9 (fun x hx => (hnt x hx).elim)
    (by rw [hbR]; show 2 + 3 < rm.frames; omega) (by rw [hbR]; show 0 + (13 * 3 + 43) ≤ rm.locals; omega) (by rw [hbR]; exact h1) (by rw [hbR]; exact h2) hC.2.2.2.2.2.2.1 ?_ hH.2.2.1.2.2 (by rw [← hC.2.2.2.2.2.2.2.2.2.2.2.2.1]; exact h1) (by rw [← hC.2.2.2.2.2.2.2.2.2.2.2.2.2]; exact h2)
  · match E, hE, hE0 with
    | 1, _, _ => decide +kernel
    | 2, _, _ => decide +kernel
    | 3, _, _ => decide +kernel
  · intro t hvm hz hk
    refine ⟨⟨E, μ, rfl, hq, hH.1.kept fun k x hx => hk x.1 (hH.1 k x hx).lt, va_K.moved hvm hC.2.2.2.2.2.2.2.2.1, hH.2.1, fun h => absurd hn (by omega)⟩, ?_⟩
    exact ⟨Nat.le_trans hH.2.2.1.1 hz, fun q g1 g2 => (hk q (Nat.lt_of_lt_of_le g1 hH.2.2.1.1)).trans (hH.2.2.1.2.1 q g1 g2)⟩
theorem q_throwW (hC : Ctx Γ own cc nL ret rm) {ik is ic E i : Nat} {tx : String} (hE : E < 4) (hE0 : 0 < E) (hw : thW own ik ic (exN E) = true) (hs : (own, is, tx, i) ∈ scTab) (hnt : ∀ x ∈ (kC Γ).exceptionTable.toList, False)
    (d0 : decode cc pc = .ok (.new ik, 3)) (d3 : decode cc (pc + 3) = .ok (.dup, 1)) (d4 : decode cc (pc + 4) = .ok (.ldc_w is, 3)) (d6 : decode cc (pc + 7) = .ok (.invokespecial ic, 3)) (d9 : decode cc (pc + 10) = .ok (.athrow, 1))
    (h1 : cn + 1 ≤ rm.cells) (h2 : sn + 6 ≤ rm.slots) (hr : 5 < rm.frames ∧ 100 ≤ rm.locals) : Cor Γ nL cn sn pc loc [] (thr E) := by
  intro Q μ H locs ls ⟨hn, hq⟩ hH hL
  have hW := thW_ok hw
  have hst := hC.2.2.2.2.2.2.2.2.2.2.1
  have hbR := hC.2.2.2.2.2.2.2.2.2.2.2.1
  refine vx_throwSW (names := ["java/lang/RuntimeException", "java/lang/Exception"]) (text := tx) hC.1 hC.2.1 hC.2.2.2.2.2.2.2.1 hC.2.2.2.2.1 (cls := exN E) ?_ (by decide +kernel) (thW_use hC (hW _ List.mem_cons_self).1 (hW _ List.mem_cons_self).2.1) (thW_use hC (hW _ (List.mem_cons_of_mem _ List.mem_cons_self)).1 (hW _ (List.mem_cons_of_mem _ List.mem_cons_self)).2.1) (hst.2.2.2.2.1 _ hs)
    (fun w h => thW_use hC (hW w (List.mem_cons_of_mem _ (List.mem_cons_of_mem _ h))).1 (hW w (List.mem_cons_of_mem _ (List.mem_cons_of_mem _ h))).2.1) (fun w h => (hW w h).2.2) hst.2.1 hst.2.2.1 hH.2.2.1 (hL.1.trans hC.2.2.1.symm) d0 d3 d4 d6 d9 (fun x hx => (hnt x hx).elim)
    (by rw [hbR]; show 2 + 3 < rm.frames; omega) (by rw [hbR]; show 0 + (13 * 3 + 43) ≤ rm.locals; omega) (by rw [hbR]; exact h1) (by rw [hbR]; exact h2) hC.2.2.2.2.2.2.1 ?_ hH.2.2.1.2.2 (by rw [← hC.2.2.2.2.2.2.2.2.2.2.2.2.1]; exact h1) (by rw [← hC.2.2.2.2.2.2.2.2.2.2.2.2.2]; exact h2)
  · match E, hE, hE0 with
    | 1, _, _ => decide +kernel
    | 2, _, _ => decide +kernel
    | 3, _, _ => decide +kernel
  · intro t hvm hz hk
    refine ⟨⟨E, μ, rfl, hq, hH.1.kept fun k x hx => hk x.1 (hH.1 k x hx).lt, va_K.moved hvm hC.2.2.2.2.2.2.2.2.1, hH.2.1, fun h => absurd hn (by omega)⟩, ?_⟩
    exact ⟨Nat.le_trans hH.2.2.1.1 hz, fun q g1 g2 => (hk q (Nat.lt_of_lt_of_le g1 hH.2.2.1.1)).trans (hH.2.2.1.2.1 q g1 g2)⟩
end Ends9
