/-! the claim out of the law's function alone -/
set_option maxHeartbeats 1000000 in
theorem ws_of {p : Program} {e : Env} {s : State} {m : MethodId} {below : List Frame} {meth : Method} {c : Code} (l : Launch) {b L : Nat} {xs : Nat → Int32} (hL : L ≤ 3072) (C0 : lw_At p s m meth c b L xs) {h' : ab_H}
    (hf : f_L_law L (fun i => (xs i).toInt) (-1000) ab_h0 = some (1, h')) (hc : h'.1 ≤ 600000) (hs : h'.2.1 ≤ 7302249) :
    W p l e room_1 s m #[Value.ref b] below meth c s.heap [] 0 0 (lw_Z below #[Value.ref b] s) (entryFrame m ([Value.ref b] : List Value).toArray 4) := by
  obtain ⟨b0, D, cy, sA, hz, hE, hsb⟩ := ws_env C0
  obtain ⟨hx, hb, hr, hml, hown, hts, hX, hbl, hlocks, hgv⟩ := id C0
  have E0 := et_L_law hf
  have he := lv_entry ([.ref b]) (n := 4) (Nat.le_of_ble_eq_true rfl)
  rw [lg_entry_eq]
  generalize (lg_sl ([.ref b]) ++ List.replicate (4 - (lg_sl ([.ref b])).length) Slot.unset).toArray = ls at he ⊢
  have hcv : ab_cv b0 sA (ab_R (-1000)) = .ref b := by
    show ab_cvR b0 sA (-1000) = .ref b
    rw [ab_cvR_neg (by decide)]
    show Value.ref (sA 1000) = .ref b
    rw [hsb]
  have hl : lv_has ls 4 (ab_lv b0 sA 0 [some (ab_R (-1000)), none, none, none]) := by
    show lv_has ls 4 [(0, ab_cv b0 sA (ab_R (-1000)))]
    rw [hcv]; exact he
  have hA : ∀ q, ab_A b0 q ↔ s.heap.size ≤ q := fun q => by show b0 < q ↔ _; omega
  have := E0.2 p l e room_1 s m #[Value.ref b] below meth c s.heap [] (lw_Z below #[Value.ref b] s) ls b0 0 0 D cy sA sA
    ⟨hx, hb, hr, hml, hown, (fun q => by cases q), ⟨Nat.le_of_ble_eq_true rfl, Nat.le_of_ble_eq_true rfl⟩, hE, hz, (fun q hq => by
      cases hq
      refine ⟨?_, by rw [hsb]; exact hbl, ?_, fun i => ab_in32 _, by show L < _; omega⟩
      · rw [hsb]
        have : (fun i => Int32.ofInt ((xs i).toInt)) = xs := funext fun i => ab_back32 _
        show va_X b L (fun i => Int32.ofInt ((xs i).toInt)) s s.heap
        rw [this]; exact hX
      · rw [hsb, hA]; omega)⟩
    ⟨(fun k q hk => by simp [ab_W, ab_h0] at hk), hz, va_S.rf, hl, (fun v hv => by cases hv), (fun v hv => by
      simp only [List.mem_cons, List.not_mem_nil, or_false] at hv
      rcases hv with hv | hv | hv | hv
      · cases hv; exact trivial
      all_goals cases hv), ab_h0_ok, Nat.le_refl _, Nat.le_refl _⟩
    ⟨by show h'.1 - 0 ≤ 600000; omega, by show h'.2.1 - 0 ≤ 7302249; omega⟩ ?_
  · exact this
  · intro H locs ls1 pc gP gz gS gok gh grd
    refine W.widen (k := 600000) (n := 7302249) (by show h'.1 - 0 ≤ 600000; omega) (by show h'.2.1 - 0 ≤ 7302249; omega) ?_
    refine va_forget (fun q hq => (hA _).mp (gS.2.2 q hq)) ?_
    exact lw_ret hx hb hr hlocks grd.1
