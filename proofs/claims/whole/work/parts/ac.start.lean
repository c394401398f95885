/-! ===== THE LAW'S START: the walk ===== -/
theorem im_sl_s : (List.map (fun q : Nat × Nat => q.2) ((List.range 104).map fun j => im_s0 (29 + j))).sum ≤ 7302250 := by decide +kernel
theorem whole_start {p : Program} {e : Env} {s : State} {m : MethodId} {below : List Frame} {meth : Method} {c : Code} (l : Launch) (hflags : l.flags = flags0) {b L : Nat} {xs : Nat → Int32} (hL : L ≤ 3584) (C0 : lw_At p s m meth c b L xs) : W p l e room_1 s m #[Value.ref b] below meth c s.heap [] 0 0 (lw_Z below #[Value.ref b] s) (entryFrame m ([Value.ref b] : List Value).toArray 4) := by
  obtain ⟨hx, hb, hr, hml, hown, hts, hX, hbl, hlocks, hgv⟩ := id C0
  obtain ⟨ad, e0, hXF⟩ := xf_start hgv hts hX hbl
  obtain ⟨D, hK⟩ := kn_start hts
  obtain ⟨n, r, sh2, mi2, mr2, hex, rfl, rfl⟩ := lw_pure (d := 0) (LL := L) (xs := xs) hL
  have hHR : im_HR D s (fun q : Nat => s.heap.size ≤ q) xs L ad (fun _ => 0) (sf_ L 29) (im_xi xs) im_xr s.heap [] := by
    refine ⟨fun k q h => ?_, ⟨fun i j p q h => ?_, fun k q h => ?_⟩, va_S.rf, ⟨?_, fun k hk => ?_, fun k t n h1 h2 => ?_, fun k j r h => ?_, fun k j hk => ⟨rfl, rfl⟩⟩⟩
    · cases h
    · cases h
    · cases h
    · exact Nat.le_of_eq (sf_len (Nat.le_refl _)).symm
    · show (im_xs L ++ [])[k]? = _
      rw [List.append_nil]
    · have := (List.getElem?_eq_some_iff.mp h2).1
      rw [sf_len (Nat.le_refl _)] at this
      omega
    · rw [sf_len (Nat.le_refl _)]
      unfold im_xr at h
      split at h
      · cases h; omega
      · cases h
  have hl := im_entry_has (y := 221) (as := [.ref 0]) ad (Nat.le_of_ble_eq_true rfl)
  rw [lg_entry_eq]
  have eb : ([Value.ref 0] : List Value).map (im_tr ad) = [Value.ref b] := by
    show [Value.ref (ad 0)] = _
    rw [e0]
  rw [eb] at hl
  refine (im_main l n).2 58 221 0 _ [] _ _ _ _ _ _ _ p e room_1 s m _ below meth c _ (fun q : Nat => s.heap.size ≤ q) D xs L ad (fun _ => 0) s.heap [] 0 0 _ (by decide) hex ⟨hx, hb, hml, hown, fun w hw => hts w (List.mem_filter.mp hw).1, hK, fun _ h => h, fun h => absurd h (by decide), Nat.le_of_ble_eq_true rfl, Nat.le_of_ble_eq_true rfl⟩ (Nat.le_of_ble_eq_true rfl) (Nat.le_of_ble_eq_true rfl) hXF hHR hl rfl ?_ ?_ ?_
  · rw [sf_len (by decide), sf_len (by decide)]
    exact Nat.le_of_ble_eq_true rfl
  · have e1 : im_sl (sf_ L 133) = im_sl (sf_ L 29) + (List.map (fun q : Nat × Nat => q.2) ((List.range 104).map fun j => im_s0 (29 + j))).sum := by
      unfold im_sl sf_
      rw [List.map_append, List.sum_append, List.map_append, List.sum_append]
      show _ = _ + 0 + _
      rw [Nat.add_zero]
    rw [e1]
    have := im_sl_s
    show 0 + (_ + _) ≤ 7302250 + _
    omega
  · intro ad2 ca2 H2 locs2 cells2 slots2 ls2 pc2 ins st2 hd hrt hag hH hc2 hs2
    rcases hrt with ⟨rfl, v, t, h1, rfl, -, -⟩ | ⟨-, v, h1, -⟩ | ⟨-, t, v, -, -, h1, -⟩ | ⟨-, h1, -⟩
    · cases h1
      refine va_forget (fun q hq => hH.2.2.1.2.2 q hq) ?_
      rw [sf_len (by decide), sf_len (by decide)] at hc2
      refine W.widen (k := 600000) (n := 7302250) (by omega) ?_ (lw_ret hx hb hr hlocks hd)
      have e1 : im_sl (sf_ L 133) = im_sl (sf_ L 29) + (List.map (fun q : Nat × Nat => q.2) ((List.range 104).map fun j => im_s0 (29 + j))).sum := by
        unfold im_sl sf_
        rw [List.map_append, List.sum_append, List.map_append, List.sum_append]
        show _ = _ + 0 + _
        rw [Nat.add_zero]
      rw [e1] at hs2
      have := im_sl_s
      omega
    · cases h1
    · cases v <;> cases h1
    · cases h1
