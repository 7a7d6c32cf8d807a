/-! a new text: both begin anew, alike -/
theorem RR_new {n lv ti x x2 c : Nat} {g : gT} {po : Option (Nat × Nat)} {s : xs_S} {m : ms_S} (hX : XT g s) (hM : MT g lv m) (h29 : m.2.1 29 lv = nI ti) (hti : ti ≤ 20) (h151 : s.1 151 = nI ti) (h152 : s.1 152 = m.2.1 30 lv) (h4 : s.1 4 = m.1 17) (hp : gAp po g.1.1 (s.1 401) (s.1 402)) (hp2 : gAp po g.1.1 (s.1 1873) (s.1 1874)) (hp3 : gAr po g.1.1 (m.2.1 47 3) (m.2.1 47 4)) (h400 : s.1 400 = nI (gph (14 * ti + 6))) (r0 : m.2.1 47 0 = nI ti) (r1 : m.2.1 47 1 = 0) (r2 : m.2.1 47 2 = 6) (r5 : ∀ i, 5 ≤ i → i < 12 → m.2.1 47 i = 0) (h403 : s.1 403 = 0) (h404 : s.1 404 = 0) (h26 : ∀ i, i < 5 → s.2.1 26 i = 0) (h118 : ∀ i, i < 294 → s.2.1 118 i = -1) (h138 : ∀ i, i < 25 → s.2.1 138 i = -1) (h2023 : s.1 2023 = nI x2) (hx2 : x2 < c) (h1875 : s.1 1875 = nI c) (hc : c ≤ 64 * n + 8) (hn : n ≤ 512) (h433 : s.1 433 = nI x) (hx : x < 40) (h434 : s.1 434 = 0) (h54 : m.1 54 = 0) (h116 : ∀ i, i < 3 → s.2.1 116 i = 0) (h70 : ∀ i, i < 3 → m.2.1 70 i = 0) (h1924 : s.1 1924 = 0) (h63 : m.1 63 = 0) (h17 : s.1 17 = 0) (h2 : m.1 2 = 0) (hY : RY m) : RR n s m := by
  have hns := hX.1
  have hst : gSt g.1.2 (14 * ti + 6) := ⟨by omega, Or.inr (by omega)⟩
  have d1 : (14 * ti + 6) / 14 = ti := by omega
  have d2 : (14 * ti + 6) / 7 % 2 = 0 := by omega
  have d3 : (14 * ti + 6) % 7 = 6 := by omega
  refine ⟨g, lv, po, 14 * ti + 6, ti, ⟨⟨hX, gPX_ap.mpr hp2, fun st hs => Or.inl (h118 _ (gph_lt hs.1))⟩, ⟨⟨x2, c, h2023, h1875, by omega, by omega⟩, Or.inr (Or.inl (fun e => ?_))⟩, h400, hst⟩, ⟨h151, hti, hp, fun l r hl hr => Or.inl (h138 _ (by omega)), c, hc, h1875⟩, hM, h29, h152, h4, ⟨hst, h400, hp, ?_, ?_, ?_, hp3, ?_, ?_, fun j hj => ?_⟩, ⟨x, 0, h433, hx, h434, h54, by omega, fun i hi => by omega⟩, fun i hi => ⟨?_, Or.inl (h116 i hi)⟩, ⟨0, by omega, h1924, h63, fun i hi => by omega⟩, ⟨0, by omega, h17, h2, fun i hi => by omega⟩, hY⟩
  · rw [h2023, h1875] at e
    have := (nI_eq (by omega) (by omega)).mp e
    omega
  · rw [d1]; exact r0
  · rw [d2]; exact r1
  · rw [d3]; exact r2
  · rw [r5 5 (by omega) (by omega)]; exact h403
  · rw [r5 6 (by omega) (by omega)]; exact h404
  · rw [r5 (7 + j) (by omega) (by omega)]; exact h26 j hj
  · rw [h70 i hi, h116 i hi]
